import java.math.BigInteger;
import java.nio.charset.StandardCharsets;
import java.util.ArrayDeque;
import java.util.ArrayList;
import java.util.Arrays;
import java.util.Deque;
import java.util.List;
import java.util.Map;
import java.util.TreeMap;
import java.util.TreeSet;
import java.util.function.ToIntFunction;
import java.util.regex.Matcher;
import java.util.regex.Pattern;

/** The document once more, written with other means, slowly: what the class answers is compared with it. */
public final class Model {
    static final class Broken extends Exception {
        Broken() {
            super(null, null, false, false);
        }
    }

    static final class Fault extends Exception {
        final int place;

        Fault(int place) {
            super(null, null, false, false);
            this.place = place;
        }
    }

    interface Sum {
        long of(ToIntFunction<String> words) throws Broken;
    }

    interface Test {
        boolean of(ToIntFunction<String> words) throws Broken;
    }

    static final class Clause {
        String kind;
        Sum first;
        Sum second;
        Test test;
        int times = 1;
    }

    /** A parser over strings that throws where it can't go on. */
    static final class Parser {
        final List<String> tokens = new ArrayList<>();
        final List<Integer> places = new ArrayList<>();
        final boolean law;
        int at = 0;
        int parts = 0;
        int depth = 0;

        Parser(String text, boolean law) {
            this.law = law;
            Matcher m = Pattern.compile("[a-z]+|[0-9]+|[^ ]", Pattern.DOTALL).matcher(text);
            while (m.find()) {
                tokens.add(m.group());
                places.add(m.start());
            }
            tokens.add("");
            places.add(text.length());
        }

        String look() {
            return tokens.get(at);
        }

        Fault fault() {
            return new Fault(places.get(at));
        }

        String next() {
            return tokens.get(at++);
        }

        void need(String token) throws Fault {
            if (!look().equals(token)) {
                throw fault();
            }
            at++;
        }

        int number(int least, int most) throws Fault {
            if (!look().matches("[0-9]+")) {
                throw fault();
            }
            BigInteger n = new BigInteger(look());
            if (n.compareTo(BigInteger.valueOf(least)) < 0 || n.compareTo(BigInteger.valueOf(most)) > 0) {
                throw fault();
            }
            at++;
            return n.intValue();
        }

        List<Clause> text() throws Fault {
            List<Clause> clauses = new ArrayList<>();
            do {
                if (clauses.size() == 12) {
                    throw fault();
                }
                clauses.add(clause());
                if (look().isEmpty()) {
                    return clauses;
                }
                need(";");
            } while (true);
        }

        Clause clause() throws Fault {
            Clause c = new Clause();
            c.kind = look();
            List<String> kinds = law ? List.of("theirs", "goes", "bars") : List.of("stride", "put", "door", "pass");
            if (!kinds.contains(c.kind)) {
                throw fault();
            }
            at++;
            if (!c.kind.equals("bars") && !c.kind.equals("pass")) {
                c.first = sum();
            }
            String link = Map.of("stride", "to", "put", "on", "door", "by").get(c.kind);
            if (link != null) {
                need(link);
                c.second = sum();
            }
            if (!law && look().equals("times")) {
                at++;
                c.times = number(1, 20);
            }
            if (look().equals("if")) {
                at++;
                c.test = test();
            }
            return c;
        }

        Test test() throws Fault {
            Test left = both();
            while (look().equals("or")) {
                at++;
                Test one = left;
                Test other = both();
                left = w -> one.of(w) || other.of(w);
            }
            return left;
        }

        Test both() throws Fault {
            Test left = plain();
            while (look().equals("and")) {
                at++;
                Test one = left;
                Test other = plain();
                left = w -> one.of(w) && other.of(w);
            }
            return left;
        }

        Test plain() throws Fault {
            if (look().equals("not")) {
                at++;
                Test one = plain();
                return w -> !one.of(w);
            }
            if (look().equals("(")) {
                if (depth == 8) {
                    throw fault();
                }
                at++;
                depth++;
                Test one = test();
                need(")");
                depth--;
                return one;
            }
            Sum one = sum();
            String sign = look();
            if (!List.of("<", ">", "=").contains(sign)) {
                throw fault();
            }
            at++;
            Sum other = sum();
            return w -> {
                long a = one.of(w);
                long b = other.of(w);
                return sign.equals("<") ? a < b : sign.equals(">") ? a > b : a == b;
            };
        }

        static long whole(long value) throws Broken {
            if (Math.abs(value) > 1_000_000_000L) {
                throw new Broken();
            }
            return value;
        }

        Sum sum() throws Fault {
            Sum left = term();
            while (look().equals("+") || look().equals("-")) {
                boolean plus = next().equals("+");
                Sum one = left;
                Sum other = term();
                left = w -> {
                    long a = one.of(w);
                    long b = other.of(w);
                    return whole(plus ? a + b : a - b);
                };
            }
            return left;
        }

        Sum term() throws Fault {
            Sum left = part();
            while (look().equals("*") || look().equals("/") || look().equals("%")) {
                String sign = next();
                Sum one = left;
                Sum other = part();
                left = w -> {
                    long a = one.of(w);
                    long b = other.of(w);
                    if (sign.equals("*")) {
                        return whole(a * b);
                    }
                    if (b == 0) {
                        throw new Broken();
                    }
                    long cut = Math.abs(a) / Math.abs(b) * (Long.signum(a) * Long.signum(b));
                    return sign.equals("/") ? cut : a - cut * b;
                };
            }
            return left;
        }

        Sum part() throws Fault {
            String token = look();
            if (token.equals("[")) {
                if (depth == 8) {
                    throw fault();
                }
                at++;
                depth++;
                Sum one = sum();
                need("]");
                depth--;
                return one;
            }
            if (parts == 50) {
                throw fault();
            }
            if (token.matches("[0-9]+")) {
                int n = number(0, 1000);
                parts++;
                return w -> n;
            }
            String words = law ? "room clock hour badger folk legs perch high mood" : "hour done latest caught clock on room at";
            if (!List.of(words.split(" ")).contains(token)) {
                throw fault();
            }
            at++;
            parts++;
            String word = token;
            if (!law && List.of("on", "room", "at").contains(token)) {
                word = token + " " + number(0, token.equals("on") ? 3 : token.equals("room") ? 2 : 5);
            }
            String name = word;
            return w -> w.applyAsInt(name);
        }
    }

    static final class State {
        int[][] perches = new int[0][];
        int[][] long_ = new int[10][10];
        boolean[][] doors = new boolean[6][6];
        int[][] folk = new int[0][];
        int[] badgers = new int[0];
        int[][] things = new int[0][];
        int[][] seen = new int[0][];
        int caught = 0;
        int[] terms = {0, 1, 0};
        List<List<Clause>> laws = new ArrayList<>();
        int force = -1;

        static int[][] deep(int[][] a) {
            int[][] b = a.clone();
            for (int i = 0; i < b.length; i++) {
                b[i] = a[i].clone();
            }
            return b;
        }

        State copy() {
            State s = new State();
            s.perches = deep(perches);
            s.long_ = deep(long_);
            for (int i = 0; i < 6; i++) {
                s.doors[i] = doors[i].clone();
            }
            s.folk = deep(folk);
            s.badgers = badgers.clone();
            s.things = deep(things);
            s.seen = deep(seen);
            s.caught = caught;
            s.terms = terms.clone();
            s.laws = new ArrayList<>(laws);
            s.force = force;
            return s;
        }

        boolean holds(Clause c, ToIntFunction<String> w) {
            try {
                return c.test == null || c.test.of(w);
            } catch (Broken e) {
                return false;
            }
        }

        Long told(List<Clause> law, String kind, ToIntFunction<String> w) {
            Long last = null;
            for (Clause c : law) {
                if (c.kind.equals(kind) && holds(c, w)) {
                    try {
                        last = c.first == null ? 1 : c.first.of(w);
                    } catch (Broken e) {
                        continue;
                    }
                }
            }
            return last;
        }

        List<Clause> law(int number) {
            return number < 0 ? List.of() : laws.get(number);
        }

        ToIntFunction<String> words(int room, int hour, int badger, int one, int perch) {
            return word -> switch (word) {
                case "room" -> room;
                case "hour" -> hour;
                case "clock" -> hour % 24;
                case "badger" -> badger;
                case "folk" -> one;
                case "legs" -> one < 0 ? -1 : folk[one][0];
                case "perch" -> perch;
                case "high" -> perch < 0 ? -1 : perches[perch][1];
                case "mood" -> terms[2];
                default -> throw new IllegalStateException(word);
            };
        }

        int theirs(int law, int room, int hour) {
            Long told = told(law(law), "theirs", words(room, hour, -1, -1, -1));
            if (told != null) {
                return told < 0 ? 0 : told > 10 ? 10 : told.intValue();
            }
            return List.of(18, 19, 20, 21, 22, 23, 0, 1, 2, 3, 4, 5).contains(hour % 24) ? 2 : 0;
        }

        boolean safe(int perch, int hour) {
            return perches[perch][1] >= theirs(force, perches[perch][0], hour);
        }

        int goes(int badger, int room, int hour) {
            Long told = told(law(force), "goes", words(room, hour, badger, -1, -1));
            long to = told == null ? (room == 5 ? 0 : room + 1) : told;
            if (to < 0 || to > 5 || to == room || !doors[room][(int) to]) {
                return room;
            }
            return (int) to;
        }

        int where(int badger, int n) {
            int room = badgers[badger];
            for (int i = 0; i < n; i++) {
                room = goes(badger, room, terms[0] + i);
            }
            return room;
        }

        boolean strides(int one, int from, int to, int hour) {
            int a = perches[from][0];
            int b = perches[to][0];
            return from != to && long_[from][to] > 0 && long_[from][to] <= folk[one][0] && (a == b || doors[a][b])
                && told(law(force), "bars", words(b, hour, -1, one, to)) == null;
        }

        boolean badgerIn(int room) {
            return Arrays.stream(badgers).anyMatch(b -> b == room);
        }

        int pass() {
            int more = 0;
            for (int[] one : folk) {
                if (badgerIn(perches[one[1]][0]) && !safe(one[1], terms[0])) {
                    more++;
                }
            }
            int[] next = new int[badgers.length];
            for (int b = 0; b < badgers.length; b++) {
                next[b] = goes(b, badgers[b], terms[0]);
            }
            badgers = next;
            caught = Math.min(999, caught + more);
            terms[0]++;
            return more;
        }

        TreeSet<Integer> near(int one, int n, int without) {
            TreeSet<Integer> all = new TreeSet<>(List.of(folk[one][1]));
            for (int i = 0; i < n; i++) {
                for (int from : List.copyOf(all)) {
                    for (int to = 0; to < perches.length; to++) {
                        if ((without >> to & 1) == 0 && strides(one, from, to, terms[0])) {
                            all.add(to);
                        }
                    }
                }
            }
            return all;
        }
    }

    State s = new State();
    State[] images = new State[2];
    Deque<Object[]> deeds = new ArrayDeque<>();
    byte[] tape = new byte[0];
    int fault = -1;
    int scratches = 0;
    int stopped = -1;
    int status = 0;
    int[] refused = new int[7];
    State dusk = null;

    int no(int by) {
        status = by;
        refused[-by]++;
        return by;
    }

    int yes(int answer) {
        status = 0;
        return answer;
    }

    static boolean in(int value, int least, int most) {
        return least <= value && value <= most;
    }

    static <T> T[] and(T[] all, T one) {
        T[] more = Arrays.copyOf(all, all.length + 1);
        more[all.length] = one;
        return more;
    }

    boolean isPerch(int p) {
        return in(p, 0, s.perches.length - 1);
    }

    boolean isFolk(int f) {
        return in(f, 0, s.folk.length - 1);
    }

    boolean isBadger(int b) {
        return in(b, 0, s.badgers.length - 1);
    }

    public int perch(int room, int high) {
        if (!in(room, 0, 5) || !in(high, 0, 9)) {
            return no(-1);
        }
        if (s.perches.length == 10) {
            return no(-5);
        }
        s.perches = and(s.perches, new int[] {room, high});
        deeds.clear();
        return yes(s.perches.length - 1);
    }

    public int at(int perch, int what) {
        if (!isPerch(perch) || what < 0) {
            return -1;
        }
        if (what < 2) {
            return s.perches[perch][what];
        }
        if (what == 2) {
            return s.safe(perch, s.terms[0]) ? 1 : 0;
        }
        return isPerch(what - 3) ? s.long_[perch][what - 3] : -1;
    }

    public int folk(int legs, int perch) {
        if (!in(legs, 1, 9)) {
            return no(-1);
        }
        if (!isPerch(perch)) {
            return no(-2);
        }
        if (s.folk.length == 4) {
            return no(-5);
        }
        s.folk = and(s.folk, new int[] {legs, perch});
        deeds.clear();
        return yes(s.folk.length - 1);
    }

    public int of(int folk, int what) {
        return isFolk(folk) && in(what, 0, 1) ? s.folk[folk][what] : -1;
    }

    public int badger(int room) {
        if (!in(room, 0, 5)) {
            return no(-1);
        }
        if (s.badgers.length == 3) {
            return no(-5);
        }
        s.badgers = Arrays.copyOf(s.badgers, s.badgers.length + 1);
        s.badgers[s.badgers.length - 1] = room;
        deeds.clear();
        return yes(s.badgers.length - 1);
    }

    public int sow(int badger, int what) {
        return isBadger(badger) && in(what, 0, 1) ? s.where(badger, what) : -1;
    }

    public int thing(int perch, int folks, int badgers) {
        if (!in(folks, 0, 9) || !in(badgers, 0, 9)) {
            return no(-1);
        }
        if (!isPerch(perch)) {
            return no(-2);
        }
        if (s.things.length == 6) {
            return no(-5);
        }
        s.things = and(s.things, new int[] {perch, folks, badgers});
        deeds.clear();
        return yes(s.things.length - 1);
    }

    public int has(int thing, int what) {
        return in(thing, 0, s.things.length - 1) && in(what, 0, 2) ? s.things[thing][what] : -1;
    }

    public int link(int one, int other, int length) {
        if (!in(length, 0, 9) || one == other) {
            return no(-1);
        }
        if (!isPerch(one) || !isPerch(other)) {
            return no(-2);
        }
        int was = s.long_[one][other];
        s.long_[one][other] = length;
        s.long_[other][one] = length;
        return yes(was);
    }

    public int room(int room, int what) {
        if (!in(room, 0, 5) || !in(what, 0, 2)) {
            return -1;
        }
        if (what == 0) {
            return s.theirs(s.force, room, s.terms[0]);
        }
        int answer = 0;
        for (int r = 0; r < 6; r++) {
            answer += s.doors[room][r] ? 1 << r : 0;
        }
        return what == 1 ? answer : (int) Arrays.stream(s.badgers).filter(b -> b == room).count();
    }

    public int can(int folk, int perch) {
        return isFolk(folk) && isPerch(perch) ? s.strides(folk, s.folk[folk][1], perch, s.terms[0]) ? 1 : 0 : -1;
    }

    public int terms(int what, int value) {
        if (!in(what, 0, 2) || !in(value, 0, new int[] {999, 10, 9}[what])) {
            return no(-1);
        }
        int was = s.terms[what];
        s.terms[what] = value;
        deeds.clear();
        return yes(was);
    }

    public int feed(int a, int b, int c, int d, int e) {
        if (tape.length + 20 > 400) {
            return -1;
        }
        byte[] more = Arrays.copyOf(tape, tape.length + 20);
        java.nio.ByteBuffer.wrap(more, tape.length, 20).putInt(a).putInt(b).putInt(c).putInt(d).putInt(e);
        tape = more;
        return tape.length;
    }

    public int end(int n) {
        if (!in(n, 0, tape.length)) {
            return -1;
        }
        tape = Arrays.copyOf(tape, n);
        return n;
    }

    byte[] taken() {
        byte[] all = tape;
        tape = new byte[0];
        return all;
    }

    public int row() {
        byte[] all = taken();
        if (all.length == 0) {
            return no(-6);
        }
        int before = status;
        int[] counts = refused.clone();
        int good = 0;
        int bad = 0;
        for (int i = 0; i < all.length; i += 3) {
            if (i + 3 <= all.length && link(all[i] & 255, all[i + 1] & 255, all[i + 2] & 255) >= 0) {
                good++;
            } else {
                bad++;
            }
        }
        status = before;
        refused = counts;
        scratches = bad;
        return yes(good);
    }

    public int scratches() {
        return scratches;
    }

    List<Clause> parsed(byte[] text, boolean law) {
        try {
            fault = -1;
            return new Parser(new String(text, StandardCharsets.ISO_8859_1), law).text();
        } catch (Fault f) {
            fault = f.place;
            return null;
        }
    }

    public int law() {
        byte[] text = taken();
        if (s.laws.size() == 6) {
            return no(-5);
        }
        List<Clause> law = parsed(text, true);
        if (law == null) {
            return no(-6);
        }
        s.laws.add(law);
        return yes(s.laws.size() - 1);
    }

    public int orders() {
        stopped = -1;
        List<Clause> text = parsed(taken(), false);
        if (text == null) {
            return no(-6);
        }
        State before = s.copy();
        Deque<Object[]> deedsBefore = new ArrayDeque<>(deeds);
        int[] counts = refused.clone();
        int[] run = {0, -1};
        for (int c = 0; c < text.size(); c++) {
            for (int t = 0; t < text.get(c).times; t++) {
                int answer = ordered(text.get(c), run);
                refused = counts.clone();
                if (answer < 0) {
                    s = before;
                    deeds = deedsBefore;
                    stopped = c;
                    return no(-3);
                }
            }
        }
        return yes(run[0]);
    }

    int ordered(Clause c, int[] run) {
        ToIntFunction<String> words = word -> {
            int k = word.contains(" ") ? Integer.parseInt(word.split(" ")[1]) : 0;
            return switch (word.split(" ")[0]) {
                case "hour" -> s.terms[0];
                case "done" -> run[0];
                case "latest" -> run[1];
                case "caught" -> s.caught;
                case "clock" -> s.terms[0] % 24;
                case "on" -> of(k, 1);
                case "room" -> sow(k, 0);
                case "at" -> has(k, 0);
                default -> throw new IllegalStateException(word);
            };
        };
        if (!s.holds(c, words)) {
            return 0;
        }
        try {
            int one = c.first == null ? 0 : (int) c.first.of(words);
            int other = c.second == null ? 0 : (int) c.second.of(words);
            int answer = switch (c.kind) {
                case "stride" -> stride(one, other);
                case "put" -> put(one, other);
                case "door" -> door(one, other);
                default -> pass();
            };
            if (answer >= 0) {
                run[0]++;
                if (c.kind.equals("pass")) {
                    run[1] = answer;
                }
            }
            return answer;
        } catch (Broken e) {
            return -3;
        }
    }

    public int fault() {
        return fault;
    }

    public int stopped() {
        return stopped;
    }

    public int force(int law) {
        if (!in(law, -1, s.laws.size() - 1)) {
            return no(-2);
        }
        int was = s.force;
        s.force = law;
        return yes(was);
    }

    /** Keeps all that may be undone, whatever the deed was. */
    void deed(int kind) {
        deeds.addLast(new Object[] {kind, s.copy()});
        if (deeds.size() > 16) {
            deeds.removeFirst();
        }
    }

    public int stride(int folk, int perch) {
        if (!isFolk(folk) || !isPerch(perch)) {
            return no(-2);
        }
        if (can(folk, perch) == 0) {
            return no(-3);
        }
        deed(0);
        s.folk[folk][1] = perch;
        return yes(at(perch, 2));
    }

    public int put(int thing, int perch) {
        if (!in(thing, 0, s.things.length - 1) || !isPerch(perch)) {
            return no(-2);
        }
        int was = s.things[thing][0];
        if (was == perch) {
            return no(-3);
        }
        deed(1);
        s.things[thing][0] = perch;
        return yes(was);
    }

    public int door(int one, int other) {
        if (!in(one, 0, 5) || !in(other, 0, 5) || one == other) {
            return no(-1);
        }
        deed(2);
        s.doors[one][other] = !s.doors[one][other];
        s.doors[other][one] = s.doors[one][other];
        return yes(s.doors[one][other] ? 1 : 0);
    }

    public int pass() {
        if (s.terms[0] == 999) {
            return no(-3);
        }
        deed(3);
        return yes(s.pass());
    }

    public int undo() {
        if (deeds.isEmpty()) {
            return no(-3);
        }
        Object[] deed = deeds.removeLast();
        State then = ((State) deed[1]).copy();
        s.folk = then.folk;
        s.badgers = then.badgers;
        s.things = then.things;
        s.doors = then.doors;
        s.caught = then.caught;
        s.terms = then.terms;
        return yes((Integer) deed[0]);
    }

    static int compareRows(List<Integer> a, List<Integer> b) {
        for (int i = 0; i < a.size(); i++) {
            if (!a.get(i).equals(b.get(i))) {
                return a.get(i) - b.get(i);
            }
        }
        return 0;
    }

    public int soonest(int folk, int perch, int i) {
        if (!isFolk(folk) || !isPerch(perch)) {
            return -1;
        }
        TreeMap<Integer, List<Integer>> first = new TreeMap<>();
        first.put(s.folk[folk][1], List.of());
        for (int t = 0; t <= 48; t++) {
            if (first.containsKey(perch)) {
                return i == -1 ? t : in(i, 0, t - 1) ? first.get(perch).get(i) : -1;
            }
            TreeMap<Integer, List<Integer>> next = new TreeMap<>();
            for (int from : first.keySet()) {
                for (int to = 0; to < s.perches.length; to++) {
                    if ((to == from || s.strides(folk, from, to, s.terms[0] + t)) && s.safe(to, s.terms[0] + t + 1)) {
                        List<Integer> row = new ArrayList<>(first.get(from));
                        row.add(to);
                        next.merge(to, row, (a, b) -> compareRows(a, b) <= 0 ? a : b);
                    }
                }
            }
            first = next;
        }
        return -1;
    }

    static int bits(Iterable<Integer> all) {
        int bits = 0;
        for (int k : all) {
            bits |= 1 << k;
        }
        return bits;
    }

    public int near(int folk, int n) {
        return isFolk(folk) && in(n, 0, 10) ? bits(s.near(folk, n, 0)) : -1;
    }

    public int cut(int folk, int perch, int what) {
        if (!isFolk(folk) || !isPerch(perch) || !in(what, 0, 1) || s.folk[folk][1] == perch || can(folk, perch) == 1) {
            return -1;
        }
        for (int size = 0; size <= 8; size++) {
            for (int some = 0; some < 1 << s.perches.length; some++) {
                if (Integer.bitCount(some) == size && (some >> perch & 1) == 0 && (some >> s.folk[folk][1] & 1) == 0
                    && !s.near(folk, 10, some).contains(perch)) {
                    return what == 0 ? size : some;
                }
            }
        }
        throw new IllegalStateException("no cut");
    }

    public int roost(int folk) {
        if (!isFolk(folk)) {
            return -1;
        }
        for (int n = 0; n <= 10; n++) {
            for (int p : s.near(folk, n, 0)) {
                boolean all = true;
                for (int h = 0; h < 24; h++) {
                    all = all && s.safe(p, s.terms[0] + h);
                }
                if (all) {
                    return p;
                }
            }
        }
        return -1;
    }

    public int where(int badger, int n) {
        return isBadger(badger) && in(n, 0, 60) ? s.where(badger, n) : -1;
    }

    public int meeting(int folk, int badger) {
        for (int n = 0; n <= 60 && isFolk(folk) && isBadger(badger); n++) {
            if (s.where(badger, n) == s.perches[s.folk[folk][1]][0]) {
                return n;
            }
        }
        return -1;
    }

    public int free(int room) {
        for (int n = 0; n <= 48 && in(room, 0, 5); n++) {
            if (s.theirs(s.force, room, s.terms[0] + n) == 0) {
                return n;
            }
        }
        return -1;
    }

    public int shares(int what) {
        int best = -1;
        int part = 0;
        for (int p = 0; p < 1 << s.things.length; p++) {
            int folks = 0;
            int badgers = 0;
            for (int k = 0; k < s.things.length; k++) {
                folks += (p >> k & 1) * s.things[k][1];
                badgers += (1 - (p >> k & 1)) * s.things[k][2];
            }
            if (Math.min(folks, badgers) > best) {
                best = Math.min(folks, badgers);
                part = p;
            }
        }
        return what == 0 ? best : what == 1 ? part : -1;
    }

    public int low(int room) {
        int low = 0;
        for (int k = 0; k < s.things.length; k++) {
            if (s.perches[s.things[k][0]][0] == room && !s.safe(s.things[k][0], s.terms[0])) {
                low |= 1 << k;
            }
        }
        return in(room, 0, 5) ? low : -1;
    }

    public int seen(int n, int room) {
        if (!in(n, 0, 60) || !in(room, 0, 5)) {
            return no(-1);
        }
        if (s.seen.length == 6) {
            return no(-5);
        }
        s.seen = and(s.seen, new int[] {n, room});
        return yes(s.seen.length);
    }

    public int forget() {
        int often = s.seen.length;
        s.seen = new int[0][];
        return often;
    }

    public int canBe() {
        int who = 0;
        for (int b = 0; b < s.badgers.length; b++) {
            int badger = b;
            who |= Arrays.stream(s.seen).allMatch(x -> s.where(badger, x[0]) == x[1]) ? 1 << b : 0;
        }
        return who;
    }

    public int look(int what) {
        int who = canBe();
        if (who == 0 || !in(what, 0, 1)) {
            return -1;
        }
        int[] most = new int[61];
        for (int n = 0; n <= 60; n++) {
            int[] rooms = new int[6];
            for (int b = 0; b < s.badgers.length; b++) {
                if ((who >> b & 1) == 1) {
                    rooms[s.where(b, n)]++;
                }
            }
            most[n] = Arrays.stream(rooms).max().getAsInt();
        }
        int least = Arrays.stream(most).min().getAsInt();
        int n = 0;
        while (most[n] != least) {
            n++;
        }
        return what == 0 ? n : least;
    }

    public long few(int k, int n) {
        if (!in(k, 1, 20) || !in(n, 0, 99)) {
            return -1;
        }
        BigInteger[] parts = new BigInteger[n + 2];
        Arrays.fill(parts, BigInteger.ZERO);
        parts[0] = BigInteger.valueOf(1_000_000_000_000L);
        for (int b = 0; b < n; b++) {
            BigInteger[] next = new BigInteger[n + 2];
            Arrays.fill(next, BigInteger.ZERO);
            for (int j = 0; j <= b; j++) {
                next[j] = next[j].add(parts[j].multiply(BigInteger.valueOf(10 - s.terms[1])).divide(BigInteger.TEN));
                next[j + 1] = next[j + 1].add(parts[j].multiply(BigInteger.valueOf(s.terms[1])).divide(BigInteger.TEN));
            }
            parts = next;
        }
        BigInteger all = BigInteger.ZERO;
        for (int j = 0; j < k && j < parts.length; j++) {
            all = all.add(parts[j]);
        }
        return all.longValueExact();
    }

    public int compare(int law, int room) {
        return in(law, -1, s.laws.size() - 1) && in(room, 0, 5) ? s.theirs(law, room, s.terms[0]) : -1;
    }

    public int dusks(int seed, int n) {
        if (!in(seed, 0, 1000000) || !in(n, 1, 60)) {
            return no(-1);
        }
        if (s.folk.length == 0) {
            return no(-3);
        }
        State paper = s.copy();
        long[] draw = {seed};
        java.util.function.LongUnaryOperator of = m -> {
            draw[0] = (draw[0] * 1103 + 12345) % 1000003;
            return draw[0] % m;
        };
        for (int i = 0; i < n; i++) {
            if (paper.terms[0] < 999) {
                int one = (int) of.applyAsLong(s.folk.length);
                int perch = (int) of.applyAsLong(s.perches.length);
                if (of.applyAsLong(4) < 3 && paper.strides(one, paper.folk[one][1], perch, paper.terms[0])) {
                    paper.folk[one][1] = perch;
                }
                paper.pass();
            }
        }
        dusk = paper;
        return yes(paper.caught - s.caught);
    }

    public int drawn(int k, int what) {
        if (dusk == null || k < 0) {
            return -1;
        }
        if (what == 0) {
            return k < dusk.folk.length ? dusk.folk[k][1] : -1;
        }
        return what == 1 && k < dusk.badgers.length ? dusk.badgers[k] : -1;
    }

    public int image(int k) {
        if (!in(k, 0, 1)) {
            return no(-1);
        }
        images[k] = s.copy();
        return yes(0);
    }

    public int back(int k) {
        if (!in(k, 0, 1)) {
            return no(-1);
        }
        if (images[k] == null) {
            return no(-2);
        }
        s = images[k].copy();
        deeds.clear();
        return yes(0);
    }

    public int count(int what) {
        int[] all = {s.perches.length, s.folk.length, s.badgers.length, s.things.length, s.caught, s.seen.length,
            s.laws.size(), deeds.size(), tape.length, refused[1], refused[2], refused[3], refused[5], refused[6],
            s.force, s.terms[0], s.terms[1], s.terms[2]};
        return in(what, 0, all.length - 1) ? all[what] : -1;
    }

    public int status() {
        return status;
    }
}
