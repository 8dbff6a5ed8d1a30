import java.lang.reflect.Method;
import java.util.ArrayList;
import java.util.Arrays;
import java.util.HashMap;
import java.util.List;
import java.util.Map;
import java.util.Random;

/** Runs of drawn calls, each answered by the class as by the model; a fixed seed draws them. */
public final class ModelTest {
    private static final Map<String, Method> OF_CLASS = methodsOf(LowerHalf.class);
    private static final Map<String, Method> OF_MODEL = methodsOf(Model.class);
    /** A call, how often it is drawn, and the ranges of its arguments. */
    private static final String[] CALLS = {
        "perch 6 0..5 0..9", "perch 1 -1..6 -1..10", "at 4 0..9 0..12", "at 1 -1..10 -2..14",
        "folk 2 1..9 0..9", "folk 1 0..10 -1..10", "of 2 0..3 0..1", "of 1 -1..4 -1..2",
        "badger 3 0..5", "badger 1 -1..6", "sow 3 0..2 0..1", "sow 1 -1..3 -1..2",
        "thing 4 0..9 0..9 0..9", "thing 1 -1..10 -1..10 -1..10", "has 2 0..5 0..2", "has 1 -1..6 -1..3",
        "link 16 0..9 0..9 0..9", "link 1 -1..10 -1..10 -1..10", "room 4 0..5 0..2", "room 1 -1..6 -1..3",
        "can 6 0..3 0..9", "can 1 -1..4 -1..10", "terms 1 0..0 0..24", "terms 2 0..2 0..10", "terms 1 -1..3 -1..1000",
        "terms 1 0..0 990..999", "scratches 1", "fault 2", "stopped 2", "force 4 -1..5", "force 1 -2..6",
        "stride 14 0..3 0..9", "stride 1 -1..4 -1..10", "put 8 0..5 0..9", "put 1 -1..6 -1..10",
        "door 10 0..5 0..5", "door 1 -1..6 -1..6", "pass 14", "undo 8", "soonest 8 0..3 0..9 -1..10",
        "soonest 1 -1..4 -1..10 -2..49", "near 5 0..3 0..10", "near 1 -1..4 -1..11", "cut 6 0..3 0..9 0..1",
        "cut 1 -1..4 -1..10 -1..2", "roost 4 0..3", "roost 1 -1..4", "where 4 0..2 0..60", "where 1 -1..3 -1..61",
        "meeting 4 0..3 0..2", "meeting 1 -1..4 -1..3", "free 3 0..5", "free 1 -1..6", "shares 3 0..1", "shares 1 -1..2",
        "low 3 0..5", "low 1 -1..6", "seen 2 0..60 0..5", "seen 1 -1..61 -1..6", "forget 2", "canBe 4",
        "look 3 0..1", "look 1 -1..2", "few 2 1..20 0..99", "few 1 0..21 -1..100", "compare 4 -1..5 0..5",
        "compare 1 -2..6 -1..6", "dusks 4 0..1000000 1..60", "dusks 1 -1..1000001 0..61", "drawn 4 0..3 0..1",
        "drawn 1 -1..4 -1..2", "image 2 0..1", "image 1 -1..2", "back 2 0..1", "back 1 -1..2", "count 12 0..17",
        "count 1 -2..19", "status 8", "end 1 -1..21"};

    private final Random random;
    private final LowerHalf x = new LowerHalf();
    private final Model model = new Model();
    private final List<String> told = new ArrayList<>();
    private int calls = 0;

    private ModelTest(long seed) {
        random = new Random(seed);
    }

    private static Map<String, Method> methodsOf(Class<?> face) {
        Map<String, Method> all = new HashMap<>();
        for (Method m : face.getDeclaredMethods()) {
            all.put(m.getName(), m);
        }
        return all;
    }

    private void call(String name, Object... args) throws ReflectiveOperationException {
        calls++;
        told.add(name + Arrays.toString(args));
        Object got = OF_CLASS.get(name).invoke(x, args);
        Object want = OF_MODEL.get(name).invoke(model, args);
        if (!got.equals(want)) {
            told.forEach(System.out::println);
            throw new AssertionError(name + Arrays.toString(args) + " answered " + got + ", due is " + want);
        }
    }

    private void feed(byte[] bytes) throws ReflectiveOperationException {
        byte[] all = Arrays.copyOf(bytes, (bytes.length + 19) / 20 * 20);
        for (int i = 0; i < all.length; i += 20) {
            Object[] five = new Object[5];
            for (int k = 0; k < 5; k++) {
                five[k] = java.nio.ByteBuffer.wrap(all, i + 4 * k, 4).getInt();
            }
            call("feed", five);
        }
        call("end", bytes.length);
    }

    private String one(String... of) {
        return of[random.nextInt(of.length)];
    }

    private String sum(boolean law, int deep) {
        int kind = random.nextInt(10);
        if (deep > 3 || kind < 3) {
            return one("0", "1", "2", "3", "5", "7", "12", "18", "24", "" + random.nextInt(30), "" + random.nextInt(1001));
        }
        if (kind < 7) {
            if (law) {
                return one("room", "clock", "hour", "badger", "folk", "legs", "perch", "high", "mood");
            }
            return one("hour", "done", "latest", "caught", "clock", "on " + random.nextInt(4),
                "room " + random.nextInt(3), "at " + random.nextInt(6));
        }
        if (kind == 7) {
            return "[" + sum(law, deep + 1) + "]";
        }
        return sum(law, deep + 1) + one("+", "-", "*", "/", "%", " % ", " - ") + sum(law, deep + 1);
    }

    private String test(boolean law, int deep) {
        int kind = deep > 3 ? 0 : random.nextInt(9);
        if (kind < 5) {
            return sum(law, 2) + one("<", ">", "=", " > ") + sum(law, 2);
        }
        if (kind == 5) {
            return "(" + test(law, deep + 1) + ")";
        }
        if (kind == 6) {
            return "not " + test(law, deep + 1);
        }
        return test(law, deep + 1) + one(" and ", " or ") + test(law, deep + 1);
    }

    private String clause(boolean law) {
        String text;
        if (law) {
            text = one("theirs " + sum(true, 1), "goes " + sum(true, 1), "goes [room+" + random.nextInt(6) + "]%6", "bars");
        } else {
            text = one("stride " + random.nextInt(4) + " to " + random.nextInt(10),
                "stride " + sum(false, 2) + " to " + sum(false, 2), "put " + random.nextInt(6) + " on " + random.nextInt(10),
                "put " + sum(false, 2) + " on " + sum(false, 2), "door " + random.nextInt(6) + " by " + random.nextInt(6),
                "door " + sum(false, 2) + " by " + sum(false, 2), "pass", "pass", "pass");
            if (random.nextInt(4) == 0) {
                text += " times " + (1 + random.nextInt(20));
            }
        }
        return random.nextInt(3) > 0 ? text + " if " + test(law, 1) : text;
    }

    private byte[] text(boolean law) {
        int many = random.nextInt(12) == 0 ? 13 : 1 + random.nextInt(law ? 5 : 3);
        StringBuilder text = new StringBuilder(clause(law));
        for (int k = 1; k < many; k++) {
            text.append(one(";", " ; ")).append(clause(law));
        }
        if (random.nextInt(25) == 0) {
            int many2 = 6 + random.nextInt(4);
            text.append(" if ").append("(".repeat(many2)).append("1=[1]").append(")".repeat(many2));
        }
        if (random.nextInt(3) == 0) {
            spoil(text);
        }
        byte[] bytes = text.toString().getBytes(java.nio.charset.StandardCharsets.ISO_8859_1);
        return bytes.length > 400 ? Arrays.copyOf(bytes, 400) : bytes;
    }

    private void spoil(StringBuilder text) {
        int place = random.nextInt(text.length() + 1);
        switch (random.nextInt(4)) {
            case 0 -> text.setLength(place);
            case 1 -> text.insert(place, one(";", "[", "]", "(", ")", "if", "A", "\u00e9", "  ", "\t", "1001", "not", "<", "on", "times 21", "0"));
            case 2 -> text.delete(place, Math.min(place + 3, text.length()));
            default -> text.append(one(" ", " x", ";", " 1", " if", " )"));
        }
    }

    private void drawCall() throws ReflectiveOperationException {
        int all = 0;
        for (String c : CALLS) {
            all += Integer.parseInt(c.split(" ")[1]);
        }
        int draw = random.nextInt(all);
        for (String c : CALLS) {
            String[] parts = c.split(" ");
            draw -= Integer.parseInt(parts[1]);
            if (draw < 0) {
                Object[] args = new Object[parts.length - 2];
                for (int k = 0; k < args.length; k++) {
                    String[] range = parts[k + 2].split("\\.\\.");
                    int least = Integer.parseInt(range[0]);
                    args[k] = least + random.nextInt(Integer.parseInt(range[1]) - least + 1);
                }
                call(parts[0], args);
                return;
            }
        }
    }

    private void drawTapeCall() throws ReflectiveOperationException {
        switch (random.nextInt(6)) {
            case 0 -> {
                byte[] bytes = new byte[random.nextInt(60)];
                for (int k = 0; k < bytes.length; k++) {
                    bytes[k] = (byte) (random.nextInt(20) == 0 ? random.nextInt(256) : random.nextInt(10));
                }
                feed(bytes);
                call("row");
                call("scratches");
            }
            case 1, 2 -> {
                feed(text(true));
                call("law");
                call("fault");
                if (random.nextInt(2) == 0) {
                    call("force", random.nextInt(3));
                }
            }
            default -> {
                feed(text(false));
                call("orders");
                call("fault");
                call("stopped");
            }
        }
    }

    /** A house with much in it, so that what is asked of it tells something. */
    private void furnish() throws ReflectiveOperationException {
        int rooms = 1 + random.nextInt(6);
        for (int k = 0; k < 10; k++) {
            call("perch", random.nextInt(rooms), random.nextInt(10));
        }
        for (int k = 0; k < 14 + random.nextInt(12); k++) {
            call("link", random.nextInt(10), random.nextInt(10), 1 + random.nextInt(7));
        }
        for (int k = 0; k < 4; k++) {
            call("folk", 3 + random.nextInt(7), random.nextInt(10));
        }
        for (int k = 0; k < 3; k++) {
            call("badger", random.nextInt(6));
        }
        for (int k = 0; k < random.nextInt(7); k++) {
            call("thing", random.nextInt(10), random.nextInt(10), random.nextInt(10));
        }
        for (int k = 0; k < random.nextInt(12); k++) {
            call("door", random.nextInt(6), random.nextInt(6));
        }
    }

    private void run() throws ReflectiveOperationException {
        if (random.nextInt(8) > 0) {
            furnish();
        }
        while (calls < 480) {
            if (random.nextInt(15) == 0) {
                drawTapeCall();
            } else {
                drawCall();
            }
        }
    }

    public static void main(String[] args) throws ReflectiveOperationException {
        int runs = args.length > 0 ? Integer.parseInt(args[0]) : 400;
        long first = args.length > 1 ? Long.parseLong(args[1]) : 1;
        long calls = 0;
        for (long seed = first; seed < first + runs; seed++) {
            ModelTest test = new ModelTest(seed);
            test.run();
            calls += test.calls;
        }
        System.out.println("ModelTest: " + calls + " calls answered as by the model");
    }
}
