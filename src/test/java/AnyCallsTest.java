import java.lang.reflect.Field;
import java.lang.reflect.InvocationTargetException;
import java.lang.reflect.Method;
import java.lang.reflect.Modifier;
import java.util.ArrayList;
import java.util.Comparator;
import java.util.List;
import java.util.Random;

/** Any arguments in any state: no call throws, and the same calls give the same answers; the face is the document's. */
public final class AnyCallsTest {
    private static final String FACE = "at(2) back(1) badger(1) can(2) canBe(0) compare(2) count(1) cut(3) door(2) drawn(2) dusks(2)"
        + " end(1) fault(0) feed(5) few(2) folk(2) force(1) forget(0) free(1) has(2) image(1) law(0) link(3) look(1) low(1)"
        + " meeting(2) near(2) of(2) orders(0) pass(0) perch(2) put(2) room(2) roost(1) row(0) scratches(0) seen(2) shares(1)"
        + " soonest(3) sow(2) status(0) stopped(0) stride(2) terms(2) thing(3) undo(0) where(2)";
    private static final int[] EDGES = {Integer.MIN_VALUE, Integer.MIN_VALUE + 1, Integer.MIN_VALUE + 3, -1_000_000_000, -1000, -16,
        -6, -3, -2, 10, 11, 12, 13, 16, 20, 31, 32, 47, 48, 49, 59, 60, 61, 64, 99, 100, 399, 400, 401, 999, 1000, 1001, 65536,
        1_000_000, 1_000_001, 1_000_003, Integer.MAX_VALUE - 3, Integer.MAX_VALUE};
    private static final String[] PIECES = {"theirs", "goes", "bars", "if", "or", "and", "not", "room", "clock", "hour", "badger",
        "folk", "legs", "perch", "high", "mood", "stride", "to", "put", "on", "door", "by", "pass", "times", "done", "latest",
        "caught", "at", "0", "1", "2", "3", "7", "1000", "1001", "[", "]", "(", ")", "<", ">", "=", "+", "-", "*", "/", "%", ";",
        " ", " ", " ", " ", "\u00ff", "\0"};

    private static List<Method> face() {
        List<Method> all = new ArrayList<>();
        for (Method m : LowerHalf.class.getDeclaredMethods()) {
            if (Modifier.isPublic(m.getModifiers())) {
                all.add(m);
            }
        }
        all.sort(Comparator.comparing(Method::getName));
        return all;
    }

    private static int argument(Random random) {
        int kind = random.nextInt(12);
        return kind == 0 ? EDGES[random.nextInt(EDGES.length)] : kind == 1 ? random.nextInt() : kind < 6 ? random.nextInt(4)
            : random.nextInt(12) - 1;
    }

    private static String text(Random random) {
        StringBuilder text = new StringBuilder();
        int length = random.nextInt(400);
        while (text.length() < length) {
            text.append(PIECES[random.nextInt(PIECES.length)]);
            if (random.nextInt(3) > 0) {
                text.append(' ');
            }
        }
        return text.substring(0, length);
    }

    private static String deep(Random random) {
        String one = new String[] {"[", "(", "not ", "1+", "1=1 or ", "(1=1 and "}[random.nextInt(6)];
        return "bars if " + one.repeat(392 / one.length());
    }

    private static void run(long seed, List<Method> face) throws ReflectiveOperationException {
        Random random = new Random(seed);
        LowerHalf x = new LowerHalf();
        LowerHalf y = new LowerHalf();
        for (int calls = 0; calls < 512; calls++) {
            if (random.nextInt(20) == 0 && calls < 490) {
                String text = random.nextInt(6) == 0 ? deep(random) : text(random);
                x.end(0);
                y.end(0);
                Due.tell(x, text);
                Due.tell(y, text);
                calls += 24;
            }
            Method m = face.get(random.nextInt(face.size()));
            Object[] args = new Object[m.getParameterCount()];
            for (int k = 0; k < args.length; k++) {
                args[k] = argument(random);
            }
            try {
                Object one = m.invoke(x, args);
                Object other = m.invoke(y, args);
                Due.is("twice " + m.getName() + ", seed " + seed, ((Number) one).longValue(), ((Number) other).longValue());
            } catch (InvocationTargetException e) {
                System.out.println(m.getName() + " threw with seed " + seed);
                e.getCause().printStackTrace(System.out);
                System.exit(1);
            }
        }
    }

    /** The dearest texts: all places taken, all clauses as long as they may be. */
    private static void dearest() {
        LowerHalf x = new LowerHalf();
        for (int k = 0; k < 10; k++) {
            x.perch(k % 6, 9);
        }
        for (int k = 0; k < 4; k++) {
            x.folk(9, k);
        }
        for (int k = 0; k < 3; k++) {
            x.badger(k);
        }
        Due.under(x, "bars if 1=0 or not(hour+perch*legs=folk+high and mood=1)and 1=0" + ";bars if perch>9".repeat(11));
        Due.is("orders", Due.orders(x, "pass times 20" + ";pass times 20".repeat(11)), 240);
        for (int k = 0; k < 200; k++) {
            Due.is("soonest", x.soonest(0, 9, -1), -1);
            Due.is("cut", x.cut(0, 9, 0), 0);
        }
    }

    /** Nothing but the document's face can be seen from outside, and it is of int, but for few. */
    private static void shape(List<Method> face) {
        Due.is("the class is public and final", LowerHalf.class.getModifiers(), Modifier.PUBLIC | Modifier.FINAL);
        Due.is("public constructors", LowerHalf.class.getConstructors().length, 1);
        Due.is("all constructors", LowerHalf.class.getDeclaredConstructors().length, 1);
        Due.is("public constants", LowerHalf.class.getFields().length, 1);
        for (Method m : face) {
            boolean isInts = List.of(m.getParameterTypes()).stream().allMatch(t -> t == int.class);
            Class<?> answer = m.getName().equals("few") ? long.class : int.class;
            Due.is(m.getName() + " is of the document's types", isInts && m.getReturnType() == answer && !Modifier.isStatic(m.getModifiers()) ? 1 : 0, 1);
        }
        for (Method m : LowerHalf.class.getDeclaredMethods()) {
            Due.is(m.getName() + " is private or of the face", Modifier.isPrivate(m.getModifiers()) || face.contains(m) ? 1 : 0, 1);
        }
        for (Field f : LowerHalf.class.getDeclaredFields()) {
            boolean isNone = f.getName().equals("NONE") && f.getModifiers() == (Modifier.PUBLIC | Modifier.STATIC | Modifier.FINAL);
            Due.is(f.getName() + " is private or NONE", Modifier.isPrivate(f.getModifiers()) || isNone ? 1 : 0, 1);
        }
        Due.is("NONE", LowerHalf.NONE, -1);
    }

    public static void main(String[] args) throws ReflectiveOperationException {
        List<Method> face = face();
        StringBuilder names = new StringBuilder();
        for (Method m : face) {
            names.append(names.length() > 0 ? " " : "").append(m.getName()).append('(').append(m.getParameterCount()).append(')');
        }
        if (!names.toString().equals(FACE)) {
            System.out.println("the face is " + names);
            System.exit(1);
        }
        shape(face);
        for (long seed = 1; seed <= 300; seed++) {
            run(seed, face);
        }
        dearest();
        Due.end("AnyCallsTest");
    }
}
