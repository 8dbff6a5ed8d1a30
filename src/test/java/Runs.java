import java.lang.reflect.Method;
import java.nio.charset.StandardCharsets;
import java.util.Arrays;
import java.util.HashMap;
import java.util.Map;
import java.util.Set;
import java.util.regex.Matcher;
import java.util.regex.Pattern;

/**
 * Runs of calls told as texts, each on a new object, with the number of the promise and its words beside it.
 * perch(5, 0)=0 answers 0; perch(6, 0)!-1 is refused by -1: the answer, status() and the counts of refusals
 * are held against it. law'bars'=0, orders'pass'!-3 feed a text first, row'0 1 5'=1 feeds bytes, tape'pass'=4
 * feeds alone. pass()=0*3 is called three times; pass()=? may answer whatever it does. MIN and MAX are the ends of int.
 * Behind each call status() is asked: 0 behind a listed one, what it was behind all others.
 */
final class Runs {
    private static final Pattern CALL = Pattern.compile("(\\w+)(?:\\(([^)]*)\\)|'([^']*)')([=!])(-?\\d+|\\?)(?:\\*(\\d+))?\\s*");
    private static final Set<String> LISTED = Set.of("perch", "folk", "badger", "thing", "link", "terms", "row", "law", "orders",
        "force", "stride", "put", "door", "pass", "undo", "seen", "dusks", "image", "back");
    private static final int MOST_CALLS = 512;
    private static final int[] KINDS = {-1, -2, -3, -5, -6};
    private static final Map<String, Method> FACE = new HashMap<>();
    /** All that can be seen of an object, but for its status and its counts of refusals. */
    private static final String QUESTIONS = questions();

    private final LowerHalf x = new LowerHalf();
    private final int[] refusals = new int[KINDS.length];
    private final String about;
    private boolean asksStatus = false;
    private int calls = 0;
    private int status = 0;

    static {
        for (Method m : LowerHalf.class.getDeclaredMethods()) {
            FACE.put(m.getName(), m);
        }
    }

    private Runs(String about) {
        this.about = about;
    }

    /** One run: the promise, the document's words that it is about, the calls. */
    static void run(int promise, String words, String... calls) {
        Runs run = new Runs("promise " + promise + ", " + words);
        run.asksStatus = true;
        run.all(String.join(" ", calls));
        run.refusalsAreCounted();
    }

    /**
     * Two objects of the same calls, one with some more: whatever is asked of both, they answer the same,
     * what can be undone and the first image, too; a few questions may be left aside.
     */
    static void leaves(int promise, String words, String setUp, String calls, String... aside) {
        Runs one = new Runs("promise " + promise + ", " + words + ", " + calls);
        Runs other = new Runs("promise " + promise + ", " + words + ", without " + calls);
        one.all(setUp);
        other.all(setUp);
        one.asksStatus = true;
        one.all(calls);
        one.answersAs(other, QUESTIONS, aside);
        int undone = (int) other.ask("count", 7);
        for (int k = 0; k <= undone; k++) {
            one.answersAs(other, "undo()");
        }
        one.answersAs(other, "of(0, 1) of(1, 1) of(2, 1) of(3, 1) sow(0, 0) sow(1, 0) sow(2, 0) has(0, 0) has(5, 0) room(0, 1) count(4) count(15)");
        one.answersAs(other, "back(0) " + QUESTIONS, aside);
    }

    private void answersAs(Runs other, String questions, String... aside) {
        for (String question : questions.split("(?<=\\)) ")) {
            if (!Arrays.asList(aside).contains(question)) {
                String name = question.substring(0, question.indexOf('('));
                Object[] args = argsOf(question.substring(question.indexOf('(') + 1, question.indexOf(')')));
                Due.is(about + ": " + question + " behind it", ask(name, args), other.ask(name, args));
            }
        }
    }

    private static String questions() {
        StringBuilder all = new StringBuilder("fault() stopped() scratches() canBe() look(0) look(1)");
        for (int p = 0; p < 10; p++) {
            for (int what = 0; what < 13; what++) {
                if (what < 3 || what > 3 + p) {
                    all.append(" at(").append(p).append(", ").append(what).append(')');
                }
            }
        }
        String[] others = {"of 4 2", "sow 3 2", "has 6 3", "room 6 3", "drawn 4 2", "compare 6 1"};
        for (String o : others) {
            String[] parts = o.split(" ");
            for (int k = 0; k < Integer.parseInt(parts[1]); k++) {
                for (int what = 0; what < Integer.parseInt(parts[2]); what++) {
                    all.append(' ').append(parts[0]).append('(').append(k).append(", ").append(what).append(')');
                }
            }
        }
        for (int what = 0; what < 18; what++) {
            if (what < 9 || what > 13) {
                all.append(" count(").append(what).append(')');
            }
        }
        return all.toString();
    }

    /** So many perches, all in room 0 and 0 high. */
    static String perches(int many) {
        StringBuilder calls = new StringBuilder();
        for (int k = 0; k < many; k++) {
            calls.append("perch(0, 0)=").append(k).append(' ');
        }
        return calls.toString();
    }

    /** Perches in room 0, so high each, strides of length 1 between neighbours, one of the folk with legs of 1 on the first. */
    static String ladder(int... highs) {
        StringBuilder calls = new StringBuilder();
        for (int k = 0; k < highs.length; k++) {
            calls.append("perch(0, ").append(highs[k]).append(")=").append(k).append(' ');
            if (k > 0) {
                calls.append("link(").append(k - 1).append(", ").append(k).append(", 1)=0 ");
            }
        }
        return calls + "folk(1, 0)=0 ";
    }

    private void all(String script) {
        Matcher m = CALL.matcher(script.trim());
        int end = 0;
        int number = 0;
        while (m.find() && m.start() == end) {
            end = m.end();
            int times = m.group(6) == null ? 1 : Integer.parseInt(m.group(6));
            for (int k = 0; k < times; k++) {
                String call = m.group(2) == null ? m.group(1) + "'" + m.group(3) + "'" : m.group(1) + "(" + m.group(2) + ")";
                one(about + ", call " + number++ + " " + call, m);
            }
        }
        if (end != script.trim().length()) {
            throw new IllegalArgumentException(about + ": no call " + script.trim().substring(end));
        }
    }

    private void one(String call, Matcher m) {
        String name = m.group(1);
        long got;
        if (m.group(2) == null) {
            feed(name.equals("row") ? bytesOf(m.group(3)) : m.group(3).getBytes(StandardCharsets.ISO_8859_1));
            got = name.equals("tape") ? ask("count", 8) : ask(name);
        } else {
            got = ask(name, argsOf(m.group(2)));
        }
        long due = m.group(5).equals("?") ? got : Long.parseLong(m.group(5));
        Due.is(call, got, due);
        boolean refused = m.group(4).equals("!");
        status = refused ? (int) due : LISTED.contains(name) ? 0 : status;
        for (int k = 0; k < KINDS.length && refused; k++) {
            refusals[k] += KINDS[k] == due ? 1 : 0;
        }
        if (!asksStatus) {
            return;
        }
        Due.is(call + ", status()", ask("status"), status);
        for (int k = 0; k < KINDS.length && refused; k++) {
            Due.is(call + ", count(" + (9 + k) + ")", ask("count", 9 + k), refusals[k]);
        }
    }

    /** What was not refused is not counted either. */
    private void refusalsAreCounted() {
        for (int k = 0; k < KINDS.length; k++) {
            Due.is(about + ", at last count(" + (9 + k) + ")", ask("count", 9 + k), refusals[k]);
        }
    }

    private void feed(byte[] bytes) {
        int before = (int) ask("count", 8);
        byte[] all = Arrays.copyOf(bytes, (bytes.length + 19) / 20 * 20);
        for (int i = 0; i < all.length; i += 20) {
            Object[] five = new Object[5];
            for (int k = 0; k < 5; k++) {
                five[k] = java.nio.ByteBuffer.wrap(all, i + 4 * k, 4).getInt();
            }
            ask("feed", five);
        }
        ask("end", before + bytes.length);
    }

    private static byte[] bytesOf(String numbers) {
        String[] parts = numbers.isBlank() ? new String[0] : numbers.trim().split(" +");
        byte[] bytes = new byte[parts.length];
        for (int i = 0; i < bytes.length; i++) {
            bytes[i] = (byte) Integer.parseInt(parts[i]);
        }
        return bytes;
    }

    private static Object[] argsOf(String text) {
        String[] parts = text.isBlank() ? new String[0] : text.split(",");
        return Arrays.stream(parts).map(Runs::numberOf).toArray();
    }

    private static Integer numberOf(String text) {
        return switch (text.trim()) {
            case "MIN" -> Integer.MIN_VALUE;
            case "MAX" -> Integer.MAX_VALUE;
            default -> (int) (long) Long.decode(text.trim());
        };
    }

    private long ask(String name, Object... args) {
        calls++;
        if (calls > MOST_CALLS) {
            throw new IllegalStateException(about + ": more than " + MOST_CALLS + " calls of one object");
        }
        try {
            return ((Number) FACE.get(name).invoke(x, args)).longValue();
        } catch (ReflectiveOperationException e) {
            throw new IllegalStateException(about + ": " + name + Arrays.toString(args), e);
        }
    }
}
