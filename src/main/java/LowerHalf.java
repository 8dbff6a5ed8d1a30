import java.util.Arrays;

/** A house of which badgers have the lower half from sundown. */
public final class LowerHalf {
    public static final int NONE = -1;

    private static final int ROOMS = 6;
    private static final int MOST_PERCHES = 10;
    private static final int MOST_FOLK = 4;
    private static final int MOST_BADGERS = 3;
    private static final int MOST_THINGS = 6;
    private static final int MOST_SEEN = 6;
    private static final int MOST_LAWS = 6;
    private static final int MOST_CAUGHT = 999;
    private static final int MOST_UNDONE = 16;
    private static final int MOST_BYTES = 400;
    private static final int LAST_HOUR = 999;
    private static final int HOURS_OF_A_DAY = 24;
    private static final int LONGEST_WAY = 48;
    private static final int LONGEST_TRACK = 60;
    private static final int IMAGES = 2;

    private static final int HOUR = 0;
    private static final int SNORES = 1;
    private static final int MOOD = 2;
    private static final int TERMS = 3;

    private static final int BAD_NUMBER = -1;
    private static final int NO_SUCH = -2;
    private static final int CANNOT = -3;
    private static final int NO_ROOM = -5;
    private static final int BAD_TEXT = -6;
    private static final int KINDS_OF_REFUSAL = 5;

    private static final int STRIDE_DONE = 0;
    private static final int PUT_DONE = 1;
    private static final int DOOR_DONE = 2;
    private static final int PASS_DONE = 3;

    // TOKENS: a single byte is told by itself, all others by what follows.
    private static final int NUMBER_TOKEN = 256;
    private static final int STRANGE_TOKEN = 257;
    private static final int END_TOKEN = 258;
    private static final int FIRST_WORD = 300;
    private static final int LONGEST_WORD = 6;
    private static final String WORDS =
        "theirsgoes  bars  if    or    and   not   room  clock hour  badgerfolk  legs  perch high  mood  strideto    put   on    door  by    pass  times done  latestcaughtat    ";
    private static final int W_THEIRS = 300;
    private static final int W_GOES = 301;
    private static final int W_BARS = 302;
    private static final int W_IF = 303;
    private static final int W_OR = 304;
    private static final int W_AND = 305;
    private static final int W_NOT = 306;
    private static final int W_ROOM = 307;
    private static final int W_CLOCK = 308;
    private static final int W_HOUR = 309;
    private static final int W_MOOD = 315;
    private static final int W_STRIDE = 316;
    private static final int W_TO = 317;
    private static final int W_PUT = 318;
    private static final int W_ON = 319;
    private static final int W_DOOR = 320;
    private static final int W_BY = 321;
    private static final int W_PASS = 322;
    private static final int W_TIMES = 323;
    private static final int W_DONE = 324;
    private static final int W_LATEST = 325;
    private static final int W_CAUGHT = 326;
    private static final int W_AT = 327;

    // What a LAW's words tell stands at these places while it is asked.
    private static final int LAW_ROOM = 0;
    private static final int LAW_CLOCK = 1;
    private static final int LAW_HOUR = 2;
    private static final int LAW_BADGER = 3;
    private static final int LAW_FOLK = 4;
    private static final int LAW_LEGS = 5;
    private static final int LAW_PERCH = 6;
    private static final int LAW_HIGH = 7;
    private static final int LAW_MOOD = 8;

    // What the words of ORDERS tell stands at these places while they are run.
    private static final int ORDER_HOUR = 0;
    private static final int ORDER_DONE = 1;
    private static final int ORDER_LATEST = 2;
    private static final int ORDER_CAUGHT = 3;
    private static final int ORDER_CLOCK = 4;
    private static final int ORDER_ON = 5;
    private static final int ORDER_ROOM = ORDER_ON + MOST_FOLK;
    private static final int ORDER_AT = ORDER_ROOM + MOST_BADGERS;
    private static final int MOST_WORDS = ORDER_AT + MOST_THINGS;

    // A step of a Reckoner: what to do in the low bits, with what above them.
    private static final int STEP_BITS = 4;
    private static final int STEP_MASK = 15;
    private static final int PUSH_NUMBER = 0;
    private static final int PUSH_WORD = 1;
    private static final int ADD = 2;
    private static final int TAKE_OFF = 3;
    private static final int MULTIPLY = 4;
    private static final int DIVIDE = 5;
    private static final int LEFT_OVER = 6;
    private static final int LESS = 7;
    private static final int MORE = 8;
    private static final int SAME = 9;
    private static final int TURN = 10;
    private static final int SKIP_IF_SO = 11;
    private static final int SKIP_IF_NOT = 12;

    private static final long LARGEST = 1_000_000_000L;
    private static final long BROKEN = 9_000_000_000L;

    // The fields of a CLAUSE that was read; its test's steps end where CLAUSE_END tells.
    private static final int CLAUSE_KIND = 0;
    private static final int CLAUSE_FIRST = 1;
    private static final int CLAUSE_SECOND = 2;
    private static final int CLAUSE_TEST = 3;
    private static final int CLAUSE_END = 4;
    private static final int CLAUSE_TIMES = 5;
    private static final int CLAUSE_FIELDS = 6;

    private final House house = new House();
    private final House beforeOrders = new House();
    private final House dusk = new House();
    private final House[] images = {new House(), new House()};
    private final boolean[] kept = new boolean[IMAGES];
    private final Tape tape = new Tape();
    private final Reader reader = new Reader();
    private final Reckoner clerk = new Reckoner();
    private final Deeds deeds = new Deeds();
    private final Deeds deedsBeforeOrders = new Deeds();
    private final Paper paper = new Paper();
    private final int[] refusals = new int[KINDS_OF_REFUSAL];
    private boolean hasDusk = false;
    private int ordersRun = 0;
    private int latestPass = NONE;
    private int faultPlace = NONE;
    private int scratchCount = 0;
    private int stoppedAt = NONE;
    private int refusal = 0;

    public LowerHalf() {
    }

    public int perch(int room, int high) {
        if (!isRoom(room) || high < 0 || high > 9) {
            return refuse(BAD_NUMBER);
        }
        if (house.perches.count >= MOST_PERCHES) {
            return refuse(NO_ROOM);
        }
        deeds.clear();
        return grant(house.perches.add(room, high));
    }

    public int at(int perch, int what) {
        if (!house.perches.isOne(perch)) {
            return NONE;
        }
        switch (what) {
            case 0:
                return house.perches.roomOf(perch);
            case 1:
                return house.perches.highOf(perch);
            case 2:
                return house.isSafe(perch, house.terms[HOUR]) ? 1 : 0;
            default:
                return what >= 3 && house.perches.isOne(what - 3) ? house.perches.between(perch, what - 3) : NONE;
        }
    }

    public int folk(int legs, int perch) {
        if (legs < 1 || legs > 9) {
            return refuse(BAD_NUMBER);
        }
        if (!house.perches.isOne(perch)) {
            return refuse(NO_SUCH);
        }
        int number = house.folkCount;
        if (number < 0 || number >= MOST_FOLK) {
            return refuse(NO_ROOM);
        }
        house.legs[number] = legs;
        house.folkOn[number] = perch;
        house.folkCount = number + 1;
        deeds.clear();
        return grant(number);
    }

    public int of(int folk, int what) {
        if (!house.isFolk(folk)) {
            return NONE;
        }
        switch (what) {
            case 0:
                return house.legs[folk];
            case 1:
                return house.folkOn[folk];
            default:
                return NONE;
        }
    }

    public int badger(int room) {
        if (!isRoom(room)) {
            return refuse(BAD_NUMBER);
        }
        int number = house.badgerCount;
        if (number < 0 || number >= MOST_BADGERS) {
            return refuse(NO_ROOM);
        }
        house.badgerIn[number] = room;
        house.badgerCount = number + 1;
        deeds.clear();
        return grant(number);
    }

    public int sow(int badger, int what) {
        if (!house.isBadger(badger)) {
            return NONE;
        }
        switch (what) {
            case 0:
                return house.badgerIn[badger];
            case 1:
                return house.whither(badger, house.badgerIn[badger], house.terms[HOUR]);
            default:
                return NONE;
        }
    }

    public int thing(int perch, int folks, int badgers) {
        if (folks < 0 || folks > 9 || badgers < 0 || badgers > 9) {
            return refuse(BAD_NUMBER);
        }
        if (!house.perches.isOne(perch)) {
            return refuse(NO_SUCH);
        }
        int number = house.thingCount;
        if (number < 0 || number >= MOST_THINGS) {
            return refuse(NO_ROOM);
        }
        house.thingOn[number] = perch;
        house.toFolk[number] = folks;
        house.toBadgers[number] = badgers;
        house.thingCount = number + 1;
        deeds.clear();
        return grant(number);
    }

    public int has(int thing, int what) {
        if (!house.isThing(thing)) {
            return NONE;
        }
        switch (what) {
            case 0:
                return house.thingOn[thing];
            case 1:
                return house.toFolk[thing];
            case 2:
                return house.toBadgers[thing];
            default:
                return NONE;
        }
    }

    public int link(int one, int other, int length) {
        if (one == other || !Perches.canBeLong(length)) {
            return refuse(BAD_NUMBER);
        }
        if (!house.perches.isOne(one) || !house.perches.isOne(other)) {
            return refuse(NO_SUCH);
        }
        int was = house.perches.between(one, other);
        house.perches.join(one, other, length);
        return grant(was);
    }

    public int room(int room, int what) {
        if (!isRoom(room)) {
            return NONE;
        }
        switch (what) {
            case 0:
                return house.theirsBy(house.lawInForce(), room, house.terms[HOUR]);
            case 1:
                return house.doors[room];
            case 2:
                return house.badgersIn(room);
            default:
                return NONE;
        }
    }

    public int can(int folk, int perch) {
        if (!house.isFolk(folk) || !house.perches.isOne(perch)) {
            return NONE;
        }
        return house.mayStride(folk, perch) ? 1 : 0;
    }

    public int terms(int what, int value) {
        if (what < 0 || what >= TERMS || value < 0 || value > mostOfTerm(what)) {
            return refuse(BAD_NUMBER);
        }
        int was = house.terms[what];
        house.terms[what] = value;
        deeds.clear();
        return grant(was);
    }

    private static int mostOfTerm(int what) {
        switch (what) {
            case HOUR:
                return LAST_HOUR;
            case SNORES:
                return 10;
            default:
                return 9;
        }
    }

    public int feed(int a, int b, int c, int d, int e) {
        if (!tape.hasPlaceFor(20)) {
            return NONE;
        }
        tape.addNumber(a);
        tape.addNumber(b);
        tape.addNumber(c);
        tape.addNumber(d);
        tape.addNumber(e);
        return tape.length;
    }

    public int end(int n) {
        if (n < 0 || n > tape.length) {
            return NONE;
        }
        tape.length = n;
        return n;
    }

    public int row() {
        int length = tape.length;
        tape.length = 0;
        if (length == 0) {
            return refuse(BAD_TEXT);
        }
        int told = 0;
        for (int i = 0; i + 2 < length; i += 3) {
            if (linkedByRow(tape.byteAt(i), tape.byteAt(i + 1), tape.byteAt(i + 2))) {
                told++;
            }
        }
        scratchCount = (length + 2) / 3 - told;
        return grant(told);
    }

    private boolean linkedByRow(int one, int other, int length) {
        if (one == other || !Perches.canBeLong(length)
            || !house.perches.isOne(one) || !house.perches.isOne(other)) {
            return false;
        }
        house.perches.join(one, other, length);
        return true;
    }

    public int scratches() {
        return scratchCount;
    }

    public int law() {
        int length = tape.length;
        tape.length = 0;
        int number = house.lawCount;
        if (number < 0 || number >= MOST_LAWS) {
            return refuse(NO_ROOM);
        }
        Text text = reader.read(tape, length, true);
        faultPlace = reader.fault;
        if (text == null) {
            return refuse(BAD_TEXT);
        }
        house.laws[number] = text;
        house.lawCount = number + 1;
        return grant(number);
    }

    public int orders() {
        int length = tape.length;
        tape.length = 0;
        stoppedAt = NONE;
        Text text = reader.read(tape, length, false);
        faultPlace = reader.fault;
        if (text == null) {
            return refuse(BAD_TEXT);
        }
        beforeOrders.copyFrom(house);
        deedsBeforeOrders.copyFrom(deeds);
        ordersRun = 0;
        latestPass = NONE;
        for (int clause = 0; clause < text.clauses; clause++) {
            for (int left = text.field(clause, CLAUSE_TIMES); left > 0; left--) {
                if (!runOnce(text, clause)) {
                    house.copyFrom(beforeOrders);
                    deeds.copyFrom(deedsBeforeOrders);
                    stoppedAt = clause;
                    return refuse(CANNOT);
                }
            }
        }
        return grant(ordersRun);
    }

    /** Whether a clause could be run, or its "if" kept it from being run. */
    private boolean runOnce(Text text, int clause) {
        tellOrderWords();
        int first = text.field(clause, CLAUSE_FIRST);
        int second = text.field(clause, CLAUSE_SECOND);
        int test = text.field(clause, CLAUSE_TEST);
        int end = text.field(clause, CLAUSE_END);
        if (test < end && clerk.value(text.steps, test, end) != 1) {
            return true;
        }
        long one = first < second ? clerk.value(text.steps, first, second) : 0;
        long other = second < test ? clerk.value(text.steps, second, test) : 0;
        if (one == BROKEN || other == BROKEN) {
            return false;
        }
        int answer;
        switch (text.field(clause, CLAUSE_KIND)) {
            case W_STRIDE:
                answer = tryStride((int) one, (int) other);
                break;
            case W_PUT:
                answer = tryPut((int) one, (int) other);
                break;
            case W_DOOR:
                answer = tryDoor((int) one, (int) other);
                break;
            default:
                answer = tryPass();
                latestPass = answer;
                break;
        }
        if (answer < 0) {
            return false;
        }
        ordersRun++;
        return true;
    }

    private void tellOrderWords() {
        int[] words = clerk.words;
        words[ORDER_HOUR] = house.terms[HOUR];
        words[ORDER_DONE] = ordersRun;
        words[ORDER_LATEST] = latestPass;
        words[ORDER_CAUGHT] = house.caught;
        words[ORDER_CLOCK] = house.terms[HOUR] % HOURS_OF_A_DAY;
        for (int k = 0; k < MOST_FOLK; k++) {
            words[ORDER_ON + k] = house.isFolk(k) ? house.folkOn[k] : NONE;
        }
        for (int k = 0; k < MOST_BADGERS; k++) {
            words[ORDER_ROOM + k] = house.isBadger(k) ? house.badgerIn[k] : NONE;
        }
        for (int k = 0; k < MOST_THINGS; k++) {
            words[ORDER_AT + k] = house.isThing(k) ? house.thingOn[k] : NONE;
        }
    }

    public int fault() {
        return faultPlace;
    }

    public int stopped() {
        return stoppedAt;
    }

    public int force(int law) {
        if (law != NONE && !house.isLaw(law)) {
            return refuse(NO_SUCH);
        }
        int was = house.inForce;
        house.inForce = law;
        return grant(was);
    }

    public int stride(int folk, int perch) {
        return settle(tryStride(folk, perch));
    }

    private int tryStride(int one, int perch) {
        if (!house.isFolk(one) || !house.perches.isOne(perch)) {
            return NO_SUCH;
        }
        if (!house.mayStride(one, perch)) {
            return CANNOT;
        }
        deeds.add(STRIDE_DONE, one, house.folkOn[one], house);
        house.folkOn[one] = perch;
        return house.isSafe(perch, house.terms[HOUR]) ? 1 : 0;
    }

    public int put(int thing, int perch) {
        return settle(tryPut(thing, perch));
    }

    private int tryPut(int thing, int perch) {
        if (!house.isThing(thing) || !house.perches.isOne(perch)) {
            return NO_SUCH;
        }
        int was = house.thingOn[thing];
        if (was == perch) {
            return CANNOT;
        }
        deeds.add(PUT_DONE, thing, was, house);
        house.thingOn[thing] = perch;
        return was;
    }

    public int door(int one, int other) {
        return settle(tryDoor(one, other));
    }

    private int tryDoor(int one, int other) {
        if (!isRoom(one) || !isRoom(other) || one == other) {
            return BAD_NUMBER;
        }
        deeds.add(DOOR_DONE, one, other, house);
        house.turnDoor(one, other);
        return house.isOpen(one, other) ? 1 : 0;
    }

    public int pass() {
        return settle(tryPass());
    }

    private int tryPass() {
        if (house.terms[HOUR] >= LAST_HOUR) {
            return CANNOT;
        }
        deeds.add(PASS_DONE, 0, 0, house);
        return house.passHour();
    }

    public int undo() {
        return settle(deeds.isEmpty() ? CANNOT : deeds.takeBack(house));
    }

    public int soonest(int folk, int perch, int i) {
        if (!house.isFolk(folk) || !house.perches.isOne(perch)) {
            return NONE;
        }
        int hours = paper.hoursTo(house, folk, perch);
        if (i == NONE) {
            return hours;
        }
        return i >= 0 && i < hours && i < paper.way.length ? paper.way[i] : NONE;
    }

    public int near(int folk, int n) {
        if (!house.isFolk(folk) || n < 0 || n > 10) {
            return NONE;
        }
        paper.drawSteps(house, folk);
        int open = house.unbarred(folk, house.perches.all(), house.terms[HOUR]);
        return paper.reached(1 << house.folkOn[folk], n, open);
    }

    public int cut(int folk, int perch, int what) {
        if (!house.isFolk(folk) || !house.perches.isOne(perch) || what < 0 || what > 1) {
            return NONE;
        }
        if (house.folkOn[folk] == perch || house.mayStride(folk, perch)) {
            return NONE;
        }
        int cut = paper.fewestBetween(house, folk, perch);
        return what == 0 ? Integer.bitCount(cut) : cut;
    }

    public int roost(int folk) {
        return house.isFolk(folk) ? paper.nearestRoost(house, folk) : NONE;
    }

    public int where(int badger, int n) {
        if (!house.isBadger(badger) || n < 0 || n > LONGEST_TRACK) {
            return NONE;
        }
        paper.drawTrack(house, badger);
        return paper.tracks[badger][n];
    }

    public int meeting(int folk, int badger) {
        if (!house.isFolk(folk) || !house.isBadger(badger)) {
            return NONE;
        }
        paper.drawTrack(house, badger);
        int room = house.perches.roomOf(house.folkOn[folk]);
        for (int n = 0; n <= LONGEST_TRACK; n++) {
            if (paper.tracks[badger][n] == room) {
                return n;
            }
        }
        return NONE;
    }

    public int free(int room) {
        if (!isRoom(room)) {
            return NONE;
        }
        for (int n = 0; n <= 48; n++) {
            if (house.theirsBy(house.lawInForce(), room, house.terms[HOUR] + n) == 0) {
                return n;
            }
        }
        return NONE;
    }

    public int shares(int what) {
        if (what < 0 || what > 1) {
            return NONE;
        }
        int bestPart = 0;
        int best = house.lesserShare(0);
        for (int part = 1; part < 1 << house.thingCount; part++) {
            int lesser = house.lesserShare(part);
            if (lesser > best) {
                best = lesser;
                bestPart = part;
            }
        }
        return what == 0 ? best : bestPart;
    }

    public int low(int room) {
        if (!isRoom(room)) {
            return NONE;
        }
        int high = house.theirsBy(house.lawInForce(), room, house.terms[HOUR]);
        int low = 0;
        for (int k = 0; k < house.thingCount && k < MOST_THINGS; k++) {
            int perch = house.thingOn[k];
            if (house.perches.roomOf(perch) == room && house.perches.highOf(perch) < high) {
                low |= 1 << k;
            }
        }
        return low;
    }

    public int seen(int n, int room) {
        if (n < 0 || n > LONGEST_TRACK || !isRoom(room)) {
            return refuse(BAD_NUMBER);
        }
        int often = house.seenCount;
        if (often < 0 || often >= MOST_SEEN) {
            return refuse(NO_ROOM);
        }
        house.seenHours[often] = n;
        house.seenRooms[often] = room;
        house.seenCount = often + 1;
        return grant(often + 1);
    }

    public int forget() {
        int often = house.seenCount;
        house.seenCount = 0;
        return often;
    }

    public int canBe() {
        return paper.whoCanBe(house);
    }

    public int look(int what) {
        if (what < 0 || what > 1) {
            return NONE;
        }
        int who = paper.whoCanBe(house);
        if (who == 0) {
            return NONE;
        }
        int bestHour = 0;
        int fewest = paper.mostTogether(who, 0);
        for (int n = 1; n <= LONGEST_TRACK; n++) {
            int most = paper.mostTogether(who, n);
            if (most < fewest) {
                fewest = most;
                bestHour = n;
            }
        }
        return what == 0 ? bestHour : fewest;
    }

    public long few(int k, int n) {
        if (k < 1 || k > 20 || n < 0 || n > 99) {
            return NONE;
        }
        return paper.chanceOfFew(k, n, house.terms[SNORES]);
    }

    public int compare(int law, int room) {
        if (!isRoom(room) || law != NONE && !house.isLaw(law)) {
            return NONE;
        }
        Text text = law == NONE ? null : house.laws[law];
        return house.theirsBy(text, room, house.terms[HOUR]);
    }

    public int dusks(int seed, int n) {
        if (seed < 0 || seed > 1_000_000 || n < 1 || n > 60) {
            return refuse(BAD_NUMBER);
        }
        if (house.folkCount < 1 || house.perches.count < 1) {
            return refuse(CANNOT);
        }
        dusk.copyFrom(house);
        hasDusk = true;
        int s = seed;
        for (int i = 0; i < n && dusk.terms[HOUR] < LAST_HOUR; i++) {
            s = drawnFrom(s);
            int one = s % house.folkCount;
            s = drawnFrom(s);
            int perch = s % house.perches.count;
            s = drawnFrom(s);
            if (s % 4 != 3 && dusk.mayStride(one, perch)) {
                dusk.folkOn[one] = perch;
            }
            dusk.passHour();
        }
        return grant(dusk.caught - house.caught);
    }

    private static int drawnFrom(int s) {
        return (int) ((s * 1103L + 12345L) % 1_000_003L);
    }

    public int drawn(int k, int what) {
        if (!hasDusk) {
            return NONE;
        }
        switch (what) {
            case 0:
                return dusk.isFolk(k) ? dusk.folkOn[k] : NONE;
            case 1:
                return dusk.isBadger(k) ? dusk.badgerIn[k] : NONE;
            default:
                return NONE;
        }
    }

    public int image(int k) {
        if (k < 0 || k >= IMAGES) {
            return refuse(BAD_NUMBER);
        }
        images[k].copyFrom(house);
        kept[k] = true;
        return grant(0);
    }

    public int back(int k) {
        if (k < 0 || k >= IMAGES) {
            return refuse(BAD_NUMBER);
        }
        if (!kept[k]) {
            return refuse(NO_SUCH);
        }
        house.copyFrom(images[k]);
        deeds.clear();
        return grant(0);
    }

    public int count(int what) {
        switch (what) {
            case 0:
                return house.perches.count;
            case 1:
                return house.folkCount;
            case 2:
                return house.badgerCount;
            case 3:
                return house.thingCount;
            case 4:
                return house.caught;
            case 5:
                return house.seenCount;
            case 6:
                return house.lawCount;
            case 7:
                return deeds.size;
            case 8:
                return tape.length;
            case 14:
                return house.inForce;
            default:
                return countFurther(what);
        }
    }

    private int countFurther(int what) {
        if (what >= 9 && what < 9 + KINDS_OF_REFUSAL) {
            return refusals[what - 9];
        }
        return what >= 15 && what < 15 + TERMS ? house.terms[what - 15] : NONE;
    }

    public int status() {
        return refusal;
    }

    private int settle(int answer) {
        return answer < 0 ? refuse(answer) : grant(answer);
    }

    private int grant(int answer) {
        refusal = 0;
        return answer;
    }

    private int refuse(int by) {
        refusal = by;
        int kind = kindOfRefusal(by);
        if (kind >= 0 && kind < refusals.length) {
            refusals[kind]++;
        }
        return by;
    }

    private static int kindOfRefusal(int by) {
        switch (by) {
            case BAD_NUMBER:
                return 0;
            case NO_SUCH:
                return 1;
            case CANNOT:
                return 2;
            case NO_ROOM:
                return 3;
            case BAD_TEXT:
                return 4;
            default:
                return NONE;
        }
    }

    private static boolean isRoom(long room) {
        return room >= 0 && room < ROOMS;
    }

    private static boolean hasBit(int bits, int k) {
        return (bits >> k & 1) == 1;
    }

    private static void copyRow(int[] from, int[] to) {
        System.arraycopy(from, 0, to, 0, Math.min(from.length, to.length));
    }

    /** The bytes that were fed. */
    private static final class Tape {
        final byte[] bytes = new byte[MOST_BYTES];
        int length = 0;

        boolean hasPlaceFor(int more) {
            return length + more <= bytes.length;
        }

        void addNumber(int number) {
            if (!hasPlaceFor(4)) {
                return;
            }
            for (int shift = 24; shift >= 0; shift -= 8) {
                bytes[length++] = (byte) (number >> shift);
            }
        }

        int byteAt(int i) {
            return i >= 0 && i < bytes.length ? bytes[i] & 255 : 0;
        }
    }

    /** The perches and the strides between them. */
    private static final class Perches {
        final int[] rooms = new int[MOST_PERCHES];
        final int[] highs = new int[MOST_PERCHES];
        final int[] strides = new int[MOST_PERCHES * MOST_PERCHES];
        int count = 0;

        static boolean canBeLong(int length) {
            return length >= 0 && length <= 9;
        }

        boolean isOne(int perch) {
            return perch >= 0 && perch < count && perch < MOST_PERCHES;
        }

        int roomOf(int perch) {
            return isOne(perch) ? rooms[perch] : NONE;
        }

        int highOf(int perch) {
            return isOne(perch) ? highs[perch] : NONE;
        }

        int all() {
            return (1 << count) - 1;
        }

        int add(int room, int high) {
            if (count < 0 || count >= MOST_PERCHES) {
                return NONE;
            }
            rooms[count] = room;
            highs[count] = high;
            return count++;
        }

        int between(int one, int other) {
            return isOne(one) && isOne(other) ? strides[one * MOST_PERCHES + other] : 0;
        }

        void join(int one, int other, int length) {
            if (isOne(one) && isOne(other)) {
                strides[one * MOST_PERCHES + other] = length;
                strides[other * MOST_PERCHES + one] = length;
            }
        }

        void copyFrom(Perches other) {
            copyRow(other.rooms, rooms);
            copyRow(other.highs, highs);
            copyRow(other.strides, strides);
            count = other.count;
        }
    }

    /** All that an IMAGE keeps, and what the law in force says of it. */
    private static final class House {
        final Perches perches = new Perches();
        final int[] doors = new int[ROOMS];
        final int[] legs = new int[MOST_FOLK];
        final int[] folkOn = new int[MOST_FOLK];
        final int[] badgerIn = new int[MOST_BADGERS];
        final int[] thingOn = new int[MOST_THINGS];
        final int[] toFolk = new int[MOST_THINGS];
        final int[] toBadgers = new int[MOST_THINGS];
        final int[] seenHours = new int[MOST_SEEN];
        final int[] seenRooms = new int[MOST_SEEN];
        final int[] terms = {0, 1, 0};
        final Text[] laws = new Text[MOST_LAWS];
        final Reckoner reckoner = new Reckoner();
        int folkCount = 0;
        int badgerCount = 0;
        int thingCount = 0;
        int seenCount = 0;
        int lawCount = 0;
        int caught = 0;
        int inForce = NONE;

        void copyFrom(House other) {
            perches.copyFrom(other.perches);
            copyRow(other.doors, doors);
            copyRow(other.legs, legs);
            copyRow(other.folkOn, folkOn);
            copyRow(other.badgerIn, badgerIn);
            copyRow(other.thingOn, thingOn);
            copyRow(other.toFolk, toFolk);
            copyRow(other.toBadgers, toBadgers);
            copyRow(other.seenHours, seenHours);
            copyRow(other.seenRooms, seenRooms);
            copyRow(other.terms, terms);
            for (int k = 0; k < MOST_LAWS; k++) {
                laws[k] = other.laws[k];
            }
            folkCount = other.folkCount;
            badgerCount = other.badgerCount;
            thingCount = other.thingCount;
            seenCount = other.seenCount;
            lawCount = other.lawCount;
            caught = other.caught;
            inForce = other.inForce;
        }

        boolean isFolk(int one) {
            return one >= 0 && one < folkCount && one < MOST_FOLK;
        }

        boolean isBadger(int badger) {
            return badger >= 0 && badger < badgerCount && badger < MOST_BADGERS;
        }

        boolean isThing(int thing) {
            return thing >= 0 && thing < thingCount && thing < MOST_THINGS;
        }

        boolean isLaw(int law) {
            return law >= 0 && law < lawCount && law < MOST_LAWS;
        }

        boolean isOpen(int one, int other) {
            return isRoom(one) && isRoom(other) && hasBit(doors[one], other);
        }

        void turnDoor(int one, int other) {
            if (isRoom(one) && isRoom(other)) {
                doors[one] ^= 1 << other;
                doors[other] ^= 1 << one;
            }
        }

        int badgersIn(int room) {
            int many = 0;
            for (int k = 0; k < badgerCount && k < MOST_BADGERS; k++) {
                if (badgerIn[k] == room) {
                    many++;
                }
            }
            return many;
        }

        Text lawInForce() {
            return isLaw(inForce) ? laws[inForce] : null;
        }

        /** How high a room is theirs by a law; null is a law without a clause. */
        int theirsBy(Text law, int room, int hour) {
            if (law != null) {
                reckoner.tellLawWords(room, hour, terms[MOOD]);
                long told = law.told(W_THEIRS, reckoner);
                if (told != BROKEN) {
                    return (int) Math.max(0, Math.min(10, told));
                }
            }
            int clock = hour % HOURS_OF_A_DAY;
            return clock >= 18 || clock <= 5 ? 2 : 0;
        }

        /** The room to which a badger in a room goes. */
        int whither(int badger, int room, int hour) {
            long told = (room + 1) % ROOMS;
            Text law = lawInForce();
            if (law != null) {
                reckoner.tellLawWords(room, hour, terms[MOOD]);
                reckoner.words[LAW_BADGER] = badger;
                long lawful = law.told(W_GOES, reckoner);
                told = lawful == BROKEN ? told : lawful;
            }
            return isRoom(told) && isOpen(room, (int) told) ? (int) told : room;
        }

        boolean isBarred(int one, int perch, int hour) {
            Text law = lawInForce();
            if (law == null || !isFolk(one) || !perches.isOne(perch)) {
                return false;
            }
            reckoner.tellLawWords(perches.roomOf(perch), hour, terms[MOOD]);
            reckoner.words[LAW_FOLK] = one;
            reckoner.words[LAW_LEGS] = legs[one];
            reckoner.words[LAW_PERCH] = perch;
            reckoner.words[LAW_HIGH] = perches.highOf(perch);
            return law.told(W_BARS, reckoner) != BROKEN;
        }

        /** Those of some perches, as bits, from which one is not barred. */
        int unbarred(int one, int some, int hour) {
            int open = 0;
            for (int perch = 0; perch < perches.count; perch++) {
                if (hasBit(some, perch) && !isBarred(one, perch, hour)) {
                    open |= 1 << perch;
                }
            }
            return open;
        }

        boolean isSafe(int perch, int hour) {
            return perches.isOne(perch)
                && perches.highOf(perch) >= theirsBy(lawInForce(), perches.roomOf(perch), hour);
        }

        /** The safe perches, as bits; each room is asked once alone. */
        int safePerches(int hour) {
            int safe = 0;
            for (int room = 0; room < ROOMS; room++) {
                int high = theirsBy(lawInForce(), room, hour);
                for (int perch = 0; perch < perches.count; perch++) {
                    if (perches.roomOf(perch) == room && perches.highOf(perch) >= high) {
                        safe |= 1 << perch;
                    }
                }
            }
            return safe;
        }

        /** Whether strides and doors lead from a perch to another one: bars aside. */
        boolean leads(int one, int from, int to) {
            int length = perches.between(from, to);
            if (length == 0 || !isFolk(one) || length > legs[one]) {
                return false;
            }
            int room = perches.roomOf(from);
            int next = perches.roomOf(to);
            return room == next || isOpen(room, next);
        }

        boolean mayStride(int one, int perch) {
            return isFolk(one) && leads(one, folkOn[one], perch) && !isBarred(one, perch, terms[HOUR]);
        }

        /** An hour passes: how many more are caught. */
        int passHour() {
            int hour = terms[HOUR];
            int more = 0;
            for (int k = 0; k < folkCount && k < MOST_FOLK; k++) {
                int perch = folkOn[k];
                int room = perches.roomOf(perch);
                if (badgersIn(room) > 0 && perches.highOf(perch) < theirsBy(lawInForce(), room, hour)) {
                    more++;
                }
            }
            caught = Math.min(caught + more, MOST_CAUGHT);
            for (int k = 0; k < badgerCount && k < MOST_BADGERS; k++) {
                badgerIn[k] = whither(k, badgerIn[k], hour);
            }
            terms[HOUR] = hour + 1;
            return more;
        }

        /** The lesser of both worths, if folk have this part of the things. */
        int lesserShare(int part) {
            int folks = 0;
            int badgers = 0;
            for (int k = 0; k < thingCount && k < MOST_THINGS; k++) {
                if (hasBit(part, k)) {
                    folks += toFolk[k];
                } else {
                    badgers += toBadgers[k];
                }
            }
            return Math.min(folks, badgers);
        }
    }

    /** What can be undone, the latest last. */
    private static final class Deeds {
        private static final int KIND = 0;
        private static final int WHO = 1;
        private static final int WAS = 2;
        private static final int CAUGHT_THEN = 3;
        private static final int BADGERS_THEN = 4;
        private static final int FIELDS = BADGERS_THEN + MOST_BADGERS;

        final int[] rows = new int[MOST_UNDONE * FIELDS];
        int size = 0;

        boolean isEmpty() {
            return size <= 0;
        }

        void clear() {
            size = 0;
        }

        void copyFrom(Deeds other) {
            copyRow(other.rows, rows);
            size = other.size;
        }

        void add(int kind, int who, int was, House house) {
            if (size >= MOST_UNDONE) {
                for (int i = 0; i + FIELDS < rows.length; i++) {
                    rows[i] = rows[i + FIELDS];
                }
                size = MOST_UNDONE - 1;
            }
            int row = size * FIELDS;
            rows[row + KIND] = kind;
            rows[row + WHO] = who;
            rows[row + WAS] = was;
            rows[row + CAUGHT_THEN] = house.caught;
            System.arraycopy(house.badgerIn, 0, rows, row + BADGERS_THEN, MOST_BADGERS);
            size++;
        }

        /** Undoes the latest one: its kind. */
        int takeBack(House house) {
            if (isEmpty() || size > MOST_UNDONE) {
                return NONE;
            }
            size--;
            int row = size * FIELDS;
            int kind = rows[row + KIND];
            int who = rows[row + WHO];
            int was = rows[row + WAS];
            if (kind == STRIDE_DONE && house.isFolk(who)) {
                house.folkOn[who] = was;
            } else if (kind == PUT_DONE && house.isThing(who)) {
                house.thingOn[who] = was;
            } else if (kind == DOOR_DONE) {
                house.turnDoor(who, was);
            } else if (kind == PASS_DONE) {
                house.caught = rows[row + CAUGHT_THEN];
                System.arraycopy(rows, row + BADGERS_THEN, house.badgerIn, 0, MOST_BADGERS);
                house.terms[HOUR]--;
            }
            return kind;
        }
    }

    /** A TEXT that was read: its clauses, and the steps by which their sums and tests are reckoned. */
    private static final class Text {
        final int[] steps;
        final int[] rows;
        final int clauses;

        Text(int[] steps, int[] rows, int clauses) {
            this.steps = steps;
            this.rows = rows;
            this.clauses = clauses;
        }

        int field(int clause, int which) {
            int place = clause * CLAUSE_FIELDS + which;
            return place >= 0 && place < rows.length ? rows[place] : 0;
        }

        /** What the last clause of a kind that holds tells (some number for "bars"), BROKEN without one. */
        long told(int kind, Reckoner reckoner) {
            for (int clause = clauses - 1; clause >= 0; clause--) {
                if (field(clause, CLAUSE_KIND) != kind) {
                    continue;
                }
                int test = field(clause, CLAUSE_TEST);
                int end = field(clause, CLAUSE_END);
                if (test < end && reckoner.value(steps, test, end) != 1) {
                    continue;
                }
                long sum = kind == W_BARS ? 1 : reckoner.value(steps, field(clause, CLAUSE_FIRST), test);
                if (sum != BROKEN) {
                    return sum;
                }
            }
            return BROKEN;
        }
    }

    /** Reckons the steps of sums and tests with what the words tell. */
    private static final class Reckoner {
        final int[] words = new int[MOST_WORDS];
        private final long[] pile = new long[64];

        /** What a law's words tell of a room; those of badgers, folk and perches tell nothing yet. */
        void tellLawWords(int room, int hour, int mood) {
            Arrays.fill(words, NONE);
            words[LAW_ROOM] = room;
            words[LAW_CLOCK] = hour % HOURS_OF_A_DAY;
            words[LAW_HOUR] = hour;
            words[LAW_MOOD] = mood;
        }

        /** A sum, or a test as 1 or 0; BROKEN as soon as a part of it is. */
        long value(int[] steps, int from, int end) {
            int high = 0;
            for (int i = Math.max(from, 0); i < end && i < steps.length; i++) {
                int step = steps[i] & STEP_MASK;
                int with = steps[i] >> STEP_BITS;
                if (step == PUSH_NUMBER || step == PUSH_WORD) {
                    if (high >= pile.length || step == PUSH_WORD && (with < 0 || with >= words.length)) {
                        return BROKEN;
                    }
                    pile[high++] = step == PUSH_NUMBER ? with : words[with];
                } else if (step >= TURN) {
                    if (high < 1) {
                        return BROKEN;
                    }
                    boolean isSo = pile[high - 1] == 1;
                    if (step == TURN) {
                        pile[high - 1] = isSo ? 0 : 1;
                    } else if (isSo == (step == SKIP_IF_SO)) {
                        i = Math.max(i, with - 1);
                    } else {
                        high--;
                    }
                } else {
                    if (high < 2) {
                        return BROKEN;
                    }
                    high--;
                    pile[high - 1] = joined(step, pile[high - 1], pile[high]);
                    if (pile[high - 1] == BROKEN) {
                        return BROKEN;
                    }
                }
            }
            return high == 1 ? pile[0] : BROKEN;
        }

        private static long joined(int step, long one, long other) {
            long sum;
            switch (step) {
                case ADD:
                    sum = one + other;
                    break;
                case TAKE_OFF:
                    sum = one - other;
                    break;
                case MULTIPLY:
                    sum = one * other;
                    break;
                case DIVIDE:
                    if (other == 0) {
                        return BROKEN;
                    }
                    sum = one / other;
                    break;
                case LEFT_OVER:
                    if (other == 0) {
                        return BROKEN;
                    }
                    sum = one % other;
                    break;
                case LESS:
                    return one < other ? 1 : 0;
                case MORE:
                    return one > other ? 1 : 0;
                default:
                    return one == other ? 1 : 0;
            }
            return sum > LARGEST || sum < -LARGEST ? BROKEN : sum;
        }
    }

    /** Reads TEXTS of both languages. */
    private static final class Reader {
        private static final int MOST_CLAUSES = 12;
        private static final int MOST_PARTS = 50;
        private static final int MOST_BRACKETS = 8;
        private static final int MOST_STEPS = 600;
        private static final int LARGEST_NUMBER = 1000;
        private static final int SIGNS_OF_SUMS = 0;
        private static final int SIGNS_OF_TERMS = 1;

        private final int[] kinds = new int[MOST_BYTES + 1];
        private final int[] places = new int[MOST_BYTES + 1];
        private final int[] numbers = new int[MOST_BYTES + 1];
        private final int[] steps = new int[MOST_STEPS];
        private final int[] rows = new int[MOST_CLAUSES * CLAUSE_FIELDS];
        private int tokens;
        private int now;
        private int stepCount;
        private int clauseCount;
        private int parts;
        private boolean ofLaws;
        int fault = NONE;

        /** The TEXT on a tape; null if it can't be one: fault tells where it can't go on then. */
        Text read(Tape tape, int length, boolean laws) {
            ofLaws = laws;
            now = 0;
            stepCount = 0;
            clauseCount = 0;
            parts = 0;
            fault = NONE;
            cutIntoTokens(tape, length);
            for (int k = 0; k < MOST_CLAUSES; k++) {
                if (!readClause()) {
                    return null;
                }
                if (kind() == END_TOKEN) {
                    return new Text(Arrays.copyOf(steps, stepCount),
                        Arrays.copyOf(rows, clauseCount * CLAUSE_FIELDS), clauseCount);
                }
                if (!take(';')) {
                    return null;
                }
            }
            fail();
            return null;
        }

        private void cutIntoTokens(Tape tape, int length) {
            tokens = 0;
            int i = 0;
            while (i < length) {
                int sign = tape.byteAt(i);
                int end = endOfToken(tape, i, length);
                if (isLetter(sign)) {
                    addToken(wordAt(tape, i, end), i, 0);
                } else if (isDigit(sign)) {
                    addToken(NUMBER_TOKEN, i, numberAt(tape, i, end));
                } else if (sign != ' ') {
                    addToken(sign, i, 0);
                }
                i = Math.max(i + 1, end);
            }
            kinds[tokens] = END_TOKEN;
            places[tokens] = length;
        }

        private static int endOfToken(Tape tape, int from, int length) {
            int sign = tape.byteAt(from);
            int end = from + 1;
            while (end < length && (isLetter(sign) && isLetter(tape.byteAt(end))
                || isDigit(sign) && isDigit(tape.byteAt(end)))) {
                end++;
            }
            return end;
        }

        private void addToken(int kind, int place, int number) {
            if (tokens < MOST_BYTES) {
                kinds[tokens] = kind;
                places[tokens] = place;
                numbers[tokens] = number;
                tokens++;
            }
        }

        private static boolean isLetter(int sign) {
            return sign >= 'a' && sign <= 'z';
        }

        private static boolean isDigit(int sign) {
            return sign >= '0' && sign <= '9';
        }

        /** The number of some digits; one above the largest for all that are larger. */
        private static int numberAt(Tape tape, int from, int end) {
            int number = 0;
            for (int i = from; i < end; i++) {
                number = Math.min(number * 10 + tape.byteAt(i) - '0', LARGEST_NUMBER + 1);
            }
            return number;
        }

        private static int wordAt(Tape tape, int from, int end) {
            if (end - from > LONGEST_WORD) {
                return STRANGE_TOKEN;
            }
            for (int word = 0; word * LONGEST_WORD < WORDS.length(); word++) {
                if (isWordAt(tape, from, end, word * LONGEST_WORD)) {
                    return FIRST_WORD + word;
                }
            }
            return STRANGE_TOKEN;
        }

        private static boolean isWordAt(Tape tape, int from, int end, int place) {
            for (int i = 0; i < LONGEST_WORD && place + i < WORDS.length(); i++) {
                int sign = from + i < end ? tape.byteAt(from + i) : ' ';
                if (sign != WORDS.charAt(place + i)) {
                    return false;
                }
            }
            return true;
        }

        private int kind() {
            return now >= 0 && now < tokens ? kinds[now] : END_TOKEN;
        }

        private boolean fail() {
            fault = now >= 0 && now <= tokens ? places[now] : NONE;
            return false;
        }

        private boolean take(int kind) {
            if (kind() != kind) {
                return fail();
            }
            now++;
            return true;
        }

        private void addStep(int step, int with) {
            if (stepCount < MOST_STEPS) {
                steps[stepCount++] = with << STEP_BITS | step;
            }
        }

        /** A step that skips is told how far when that is known. */
        private void skipTillHere(int place) {
            if (place >= 0 && place < stepCount) {
                steps[place] = stepCount << STEP_BITS | steps[place] & STEP_MASK;
            }
        }

        private boolean readClause() {
            int kind = kind();
            int row = clauseCount * CLAUSE_FIELDS;
            if (!beginsClause(kind) || row < 0 || row + CLAUSE_FIELDS > rows.length) {
                return fail();
            }
            now++;
            rows[row + CLAUSE_KIND] = kind;
            rows[row + CLAUSE_FIRST] = stepCount;
            if (kind != W_BARS && kind != W_PASS && !readSum(SIGNS_OF_SUMS, 0)) {
                return false;
            }
            rows[row + CLAUSE_SECOND] = stepCount;
            int link = linkOf(kind);
            if (link != NONE && !(take(link) && readSum(SIGNS_OF_SUMS, 0))) {
                return false;
            }
            rows[row + CLAUSE_TEST] = stepCount;
            rows[row + CLAUSE_TIMES] = 1;
            if (!ofLaws && kind() == W_TIMES) {
                now++;
                rows[row + CLAUSE_TIMES] = numberNow();
                if (!takeNumber(1, 20)) {
                    return false;
                }
            }
            if (kind() == W_IF) {
                now++;
                if (!readTest(W_OR, 0)) {
                    return false;
                }
            }
            rows[row + CLAUSE_END] = stepCount;
            clauseCount++;
            return true;
        }

        private boolean beginsClause(int kind) {
            if (ofLaws) {
                return kind == W_THEIRS || kind == W_GOES || kind == W_BARS;
            }
            return kind == W_STRIDE || kind == W_PUT || kind == W_DOOR || kind == W_PASS;
        }

        /** The word between the two sums of a clause; NONE if it has no second one. */
        private static int linkOf(int kind) {
            switch (kind) {
                case W_STRIDE:
                    return W_TO;
                case W_PUT:
                    return W_ON;
                case W_DOOR:
                    return W_BY;
                default:
                    return NONE;
            }
        }

        private int numberNow() {
            return now >= 0 && now < tokens ? numbers[now] : 0;
        }

        private boolean takeNumber(int least, int most) {
            if (kind() != NUMBER_TOKEN || numberNow() < least || numberNow() > most) {
                return fail();
            }
            now++;
            return true;
        }

        /** A TEST, if the word that links its parts is "or"; a BOTH, if that is "and". */
        private boolean readTest(int link, int open) {
            int skip = NONE;
            boolean goesOn = true;
            while (goesOn && now <= tokens) {
                if (link == W_OR ? !readTest(W_AND, open) : !readPlain(open)) {
                    return false;
                }
                skipTillHere(skip);
                goesOn = kind() == link;
                if (goesOn) {
                    now++;
                    skip = stepCount;
                    addStep(link == W_OR ? SKIP_IF_SO : SKIP_IF_NOT, 0);
                }
            }
            return true;
        }

        private boolean readPlain(int open) {
            boolean turned = false;
            // a row of "not" is walked along, so that it does not go deeper
            while (now < tokens && kind() == W_NOT) {
                now++;
                turned = !turned;
            }
            if (kind() == '(') {
                if (open >= MOST_BRACKETS) {
                    return fail();
                }
                now++;
                if (!readTest(W_OR, open + 1) || !take(')')) {
                    return false;
                }
            } else {
                if (!readSum(SIGNS_OF_SUMS, open)) {
                    return false;
                }
                int step = comparisonOf(kind());
                if (step == NONE) {
                    return fail();
                }
                now++;
                if (!readSum(SIGNS_OF_SUMS, open)) {
                    return false;
                }
                addStep(step, 0);
            }
            if (turned) {
                addStep(TURN, 0);
            }
            return true;
        }

        private static int comparisonOf(int kind) {
            switch (kind) {
                case '<':
                    return LESS;
                case '>':
                    return MORE;
                case '=':
                    return SAME;
                default:
                    return NONE;
            }
        }

        /** A SUM with the signs of sums, a TERM with those of terms. */
        private boolean readSum(int signs, int open) {
            int step = NONE;
            boolean goesOn = true;
            while (goesOn && now <= tokens) {
                if (signs == SIGNS_OF_SUMS ? !readSum(SIGNS_OF_TERMS, open) : !readPart(open)) {
                    return false;
                }
                if (step != NONE) {
                    addStep(step, 0);
                }
                step = signs == SIGNS_OF_SUMS ? sumStepOf(kind()) : termStepOf(kind());
                goesOn = step != NONE;
                if (goesOn) {
                    now++;
                }
            }
            return true;
        }

        private static int sumStepOf(int kind) {
            return kind == '+' ? ADD : kind == '-' ? TAKE_OFF : NONE;
        }

        private static int termStepOf(int kind) {
            return kind == '*' ? MULTIPLY : kind == '/' ? DIVIDE : kind == '%' ? LEFT_OVER : NONE;
        }

        private boolean readPart(int open) {
            int kind = kind();
            if (kind == '[') {
                if (open >= MOST_BRACKETS) {
                    return fail();
                }
                now++;
                return readSum(SIGNS_OF_SUMS, open + 1) && take(']');
            }
            if (parts >= MOST_PARTS) {
                return fail();
            }
            parts++;
            if (kind == NUMBER_TOKEN) {
                addStep(PUSH_NUMBER, numberNow());
                return takeNumber(0, LARGEST_NUMBER);
            }
            int word = ofLaws ? lawWordOf(kind) : orderWordOf(kind);
            if (word == NONE) {
                return fail();
            }
            now++;
            int many = ofLaws ? 0 : manyOf(kind);
            if (many == 0) {
                addStep(PUSH_WORD, word);
                return true;
            }
            addStep(PUSH_WORD, word + numberNow());
            return takeNumber(0, many - 1);
        }

        private static int lawWordOf(int kind) {
            return kind >= W_ROOM && kind <= W_MOOD ? kind - W_ROOM : NONE;
        }

        private static int orderWordOf(int kind) {
            switch (kind) {
                case W_HOUR:
                    return ORDER_HOUR;
                case W_DONE:
                    return ORDER_DONE;
                case W_LATEST:
                    return ORDER_LATEST;
                case W_CAUGHT:
                    return ORDER_CAUGHT;
                case W_CLOCK:
                    return ORDER_CLOCK;
                case W_ON:
                    return ORDER_ON;
                case W_ROOM:
                    return ORDER_ROOM;
                case W_AT:
                    return ORDER_AT;
                default:
                    return NONE;
            }
        }

        /** How many numbers may stand behind a word of ORDERS; 0, if none does. */
        private static int manyOf(int kind) {
            switch (kind) {
                case W_ON:
                    return MOST_FOLK;
                case W_ROOM:
                    return MOST_BADGERS;
                case W_AT:
                    return MOST_THINGS;
                default:
                    return 0;
            }
        }
    }

    /** What is reckoned on paper: the house stays as it is. */
    private static final class Paper {
        final int[] way = new int[LONGEST_WAY];
        final int[][] tracks = new int[MOST_BADGERS][LONGEST_TRACK + 1];
        private final int[] steps = new int[MOST_PERCHES];
        private final int[] open = new int[LONGEST_WAY];
        private final int[] ahead = new int[LONGEST_WAY + 1];
        private final int[] together = new int[ROOMS];
        private final long[] chances = new long[20];

        /** To which perches strides and doors lead one from each perch, as bits: bars aside. */
        void drawSteps(House house, int one) {
            for (int from = 0; from < MOST_PERCHES; from++) {
                steps[from] = 0;
                for (int to = 0; to < MOST_PERCHES; to++) {
                    if (house.leads(one, from, to)) {
                        steps[from] |= 1 << to;
                    }
                }
            }
        }

        private int onward(int some) {
            int next = 0;
            for (int perch = 0; perch < MOST_PERCHES; perch++) {
                if (hasBit(some, perch)) {
                    next |= steps[perch];
                }
            }
            return next;
        }

        /** From some perches by so many strides at most over open ones; drawSteps() goes ahead of it. */
        int reached(int some, int strides, int over) {
            int reached = some;
            for (int i = 0; i < strides; i++) {
                int next = reached | onward(reached) & over;
                if (next == reached) {
                    break;
                }
                reached = next;
            }
            return reached;
        }

        /** The fewest hours to a perch; NONE if there is no way in time: the way stands in its row then. */
        int hoursTo(House house, int one, int perch) {
            int from = house.folkOn[one];
            if (from == perch) {
                return 0;
            }
            drawSteps(house, one);
            int hour = house.terms[HOUR];
            ahead[0] = 1 << from;
            for (int t = 0; t < LONGEST_WAY && ahead[t] != 0; t++) {
                int next = onward(ahead[t]);
                open[t] = house.unbarred(one, next, hour + t);
                ahead[t + 1] = (ahead[t] | next & open[t]) & house.safePerches(hour + t + 1);
                if (hasBit(ahead[t + 1], perch)) {
                    keepThoseThatComeTo(perch, t + 1);
                    drawWay(from, t + 1);
                    return t + 1;
                }
            }
            return NONE;
        }

        /** Of the perches ahead in each hour only those stay from which one still comes to this one. */
        private void keepThoseThatComeTo(int perch, int hours) {
            ahead[hours] = 1 << perch;
            for (int t = hours - 1; t >= 0; t--) {
                int good = 0;
                for (int p = 0; p < MOST_PERCHES; p++) {
                    if (hasBit(ahead[t], p) && ((1 << p | steps[p] & open[t]) & ahead[t + 1]) != 0) {
                        good |= 1 << p;
                    }
                }
                ahead[t] = good;
            }
        }

        private void drawWay(int from, int hours) {
            int perch = from;
            for (int t = 0; t < hours && t < LONGEST_WAY; t++) {
                int choice = perch >= 0 && perch < MOST_PERCHES ? 1 << perch | steps[perch] & open[t] : 0;
                perch = lowestOf(choice & ahead[t + 1]);
                way[t] = perch;
            }
        }

        /** The lowest of some perches; NONE of none. */
        private static int lowestOf(int bits) {
            for (int perch = 0; perch < MOST_PERCHES; perch++) {
                if (hasBit(bits, perch)) {
                    return perch;
                }
            }
            return NONE;
        }

        /** The fewest perches, the lowest as bits, without which one does not come to a perch. */
        int fewestBetween(House house, int one, int perch) {
            drawSteps(house, one);
            int all = house.perches.all();
            int over = house.unbarred(one, all, house.terms[HOUR]);
            int from = 1 << house.folkOn[one];
            int others = all & ~(from | 1 << perch);
            int best = others;
            for (int some = 0; some < others; some++) {
                if ((some & ~others) != 0 || Integer.bitCount(some) >= Integer.bitCount(best)) {
                    continue;
                }
                if (!hasBit(reached(from, MOST_PERCHES, over & ~some), perch)) {
                    best = some;
                }
            }
            return best;
        }

        int nearestRoost(House house, int one) {
            int hour = house.terms[HOUR];
            int safe = house.perches.all();
            for (int n = 0; n < HOURS_OF_A_DAY; n++) {
                safe &= house.safePerches(hour + n);
            }
            drawSteps(house, one);
            int over = house.unbarred(one, house.perches.all(), hour);
            for (int strides = 0; strides <= 10; strides++) {
                int good = reached(1 << house.folkOn[one], strides, over) & safe;
                if (good != 0) {
                    return lowestOf(good);
                }
            }
            return NONE;
        }

        /** The rooms in which a badger is, hour by hour from now on. */
        void drawTrack(House house, int badger) {
            if (!house.isBadger(badger)) {
                return;
            }
            int[] track = tracks[badger];
            int room = house.badgerIn[badger];
            for (int n = 0; n <= LONGEST_TRACK; n++) {
                track[n] = room;
                room = house.whither(badger, room, house.terms[HOUR] + n);
            }
        }

        /** The badgers of whom all that was seen is so, as bits; all tracks are drawn then. */
        int whoCanBe(House house) {
            int who = 0;
            for (int badger = 0; badger < house.badgerCount && badger < MOST_BADGERS; badger++) {
                drawTrack(house, badger);
                boolean isSo = true;
                for (int k = 0; k < house.seenCount && k < MOST_SEEN; k++) {
                    int n = house.seenHours[k];
                    if (n < 0 || n > LONGEST_TRACK || tracks[badger][n] != house.seenRooms[k]) {
                        isSo = false;
                    }
                }
                who |= isSo ? 1 << badger : 0;
            }
            return who;
        }

        /** How many of some badgers at most are in one room n hours on. */
        int mostTogether(int who, int n) {
            Arrays.fill(together, 0);
            int most = 0;
            for (int badger = 0; badger < MOST_BADGERS; badger++) {
                int room = hasBit(who, badger) && n >= 0 && n <= LONGEST_TRACK ? tracks[badger][n] : NONE;
                if (isRoom(room)) {
                    together[room]++;
                    most = Math.max(most, together[room]);
                }
            }
            return most;
        }

        long chanceOfFew(int below, int badgers, int snores) {
            int many = Math.min(below, chances.length);
            Arrays.fill(chances, 0L);
            chances[0] = 1_000_000_000_000L;
            for (int b = 0; b < badgers; b++) {
                // from above, so that what stands one below is still that of the badger before
                for (int k = many - 1; k >= 0; k--) {
                    long more = k > 0 ? chances[k - 1] * snores / 10 : 0;
                    chances[k] = chances[k] * (10 - snores) / 10 + more;
                }
            }
            long all = 0;
            for (int k = 0; k < many; k++) {
                all += chances[k];
            }
            return all;
        }
    }
}
