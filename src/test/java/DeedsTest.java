/** Promises 22 to 27, 45 and 46: laws in force, deeds, what is undone, images. */
public final class DeedsTest {
    /** Promise 22. */
    private static void forces() {
        LowerHalf x = new LowerHalf();
        x.door(0, 1);
        Due.law(x, "theirs 4");
        Due.law(x, "theirs 6");
        Due.isWith(x, "force 1", x.force(1), -1, 0);
        Due.is("theirs", x.room(0, 0), 6);
        Due.isWith(x, "force 0", x.force(0), 1, 0);
        Due.is("theirs", x.room(0, 0), 4);
        Due.refused(x, "force 2", x.force(2), -2);
        Due.refused(x, "force -2", x.force(-2), -2);
        Due.isWith(x, "force none", x.force(-1), 0, 0);
        Due.is("theirs", x.room(0, 0), 2);
        Due.is("force leaves what can be undone", x.count(7), 1);
    }

    /** Promise 23. */
    private static void strides() {
        LowerHalf x = new LowerHalf();
        x.perch(0, 0);
        x.perch(0, 2);
        x.perch(1, 1);
        x.folk(3, 0);
        x.link(0, 1, 3);
        x.link(1, 2, 3);
        Due.refused(x, "no folk", x.stride(1, 0), -2);
        Due.refused(x, "no perch", x.stride(0, 3), -2);
        Due.refused(x, "to itself", x.stride(0, 0), -3);
        Due.refused(x, "without strides", x.stride(0, 2), -3);
        Due.isWith(x, "as high as theirs", x.stride(0, 1), 1, 0);
        Due.refused(x, "a shut door", x.stride(0, 2), -3);
        x.door(1, 0);
        Due.isWith(x, "lower than theirs", x.stride(0, 2), 0, 0);
        x.link(1, 2, 4);
        Due.refused(x, "too long", x.stride(0, 1), -3);
        x.link(1, 2, 3);
        Due.under(x, "bars if high=2");
        Due.refused(x, "barred", x.stride(0, 1), -3);
    }

    /** Promises 24 and 25. */
    private static void putsAndDoors() {
        LowerHalf x = Due.ladder(0, 0);
        x.thing(1, 0, 0);
        Due.refused(x, "no thing", x.put(1, 0), -2);
        Due.refused(x, "no perch", x.put(0, 2), -2);
        Due.refused(x, "it is there", x.put(0, 1), -3);
        Due.isWith(x, "put", x.put(0, 0), 1, 0);
        Due.is("has", x.has(0, 0), 0);
        Due.refused(x, "one door alone", x.door(3, 3), -1);
        Due.refused(x, "door 6", x.door(0, 6), -1);
        Due.refused(x, "door -1", x.door(-1, 0), -1);
        Due.isWith(x, "door", x.door(3, 4), 1, 0);
        Due.isWith(x, "door again", x.door(4, 3), 0, 0);
        Due.is("can be undone", x.count(7), 3);
    }

    /** Promise 26. */
    private static void passes() {
        LowerHalf x = Due.ladder(0, 1, 2);
        x.folk(1, 1);
        x.folk(1, 2);
        Due.isWith(x, "no badger", x.pass(), 0, 0);
        x.badger(0);
        x.badger(0);
        Due.isWith(x, "two of three, once for both badgers", x.pass(), 2, 0);
        Due.is("caught", x.count(4), 2);
        x.door(0, 1);
        Due.isWith(x, "asked as it was ahead", x.pass(), 2, 0);
        Due.is("both went", x.room(1, 2), 2);
        Due.isWith(x, "none there", x.pass(), 0, 0);
        Due.is("caught", x.count(4), 4);
        x.terms(0, 999);
        Due.refused(x, "the last hour", x.pass(), -3);
        Due.under(x, "theirs 10; goes 0");
        x.terms(0, 0);
        Due.orders(x, "pass times 20" + "; pass times 20".repeat(11));
        Due.orders(x, "pass times 20; pass times 20; pass times 20; pass times 20; pass times 11 if caught<998");
        Due.is("caught so far", x.count(4), 4 + 239 * 3 + 91 * 3 > 999 ? 999 : 4 + 239 * 3 + 91 * 3);
        LowerHalf y = Due.ladder(0);
        y.folk(1, 0);
        y.folk(1, 0);
        y.folk(1, 0);
        y.badger(0);
        Due.under(y, "theirs 1");
        String twelve = "pass times 20" + ";pass times 20".repeat(11);
        Due.is("240 hours", Due.orders(y, twelve), 240);
        Due.is("9 more", Due.orders(y, "pass times 9"), 9);
        Due.is("caught 996", y.count(4), 996);
        Due.is("4 more, to the last", y.pass(), 4);
        Due.is("caught 999", y.count(4), 999);
        Due.is("4 more, all cut off", y.pass(), 4);
        Due.is("caught 999 still", y.count(4), 999);
        y.undo();
        y.undo();
        Due.is("caught as it was", y.count(4), 996);
        Due.is("dusks tell what is not cut off", y.dusks(0, 5), 3);
    }

    /** Promise 27. */
    private static void undone() {
        LowerHalf x = Due.ladder(0, 3);
        x.thing(0, 1, 1);
        x.badger(0);
        Due.refused(x, "nothing to undo", x.undo(), -3);
        x.door(0, 1);
        x.pass();
        x.stride(0, 1);
        x.put(0, 1);
        Due.is("can be undone", x.count(7), 4);
        Due.isWith(x, "put", x.undo(), 1, 0);
        Due.is("thing", x.has(0, 0), 0);
        Due.isWith(x, "stride", x.undo(), 0, 0);
        Due.is("folk", x.of(0, 1), 0);
        Due.isWith(x, "pass", x.undo(), 3, 0);
        Due.is("badger", x.sow(0, 0), 0);
        Due.is("caught", x.count(4), 0);
        Due.is("hour", x.count(15), 0);
        Due.isWith(x, "door", x.undo(), 2, 0);
        Due.is("door is shut", x.room(0, 1), 0);
        Due.refused(x, "nothing more", x.undo(), -3);
        LowerHalf y = new LowerHalf();
        y.perch(2, 0);
        y.perch(2, 0);
        y.link(0, 1, 1);
        for (int k = 0; k < 3; k++) {
            y.folk(1, 0);
            y.badger(k + 1);
            y.thing(0, 0, 0);
        }
        y.door(1, 2);
        y.door(3, 4);
        y.door(2, 3);
        y.pass();
        y.stride(2, 1);
        y.put(1, 1);
        y.pass();
        int[] due = {3, 1, 0, 3, 2, 2, 2};
        for (int k = 0; k < due.length; k++) {
            Due.is("undo " + k, y.undo(), due[k]);
            Due.is("badger 0 behind " + k, y.sow(0, 0), k < 3 ? 2 : 1);
            Due.is("badger 2 behind " + k, y.sow(2, 0), k < 3 ? 4 : 3);
            Due.is("badger 1 behind " + k, y.sow(1, 0), k < 3 ? 3 : 2);
            Due.is("folk behind " + k, y.of(2, 1), k < 2 ? 1 : 0);
            Due.is("thing behind " + k, y.has(1, 0), k < 1 ? 1 : 0);
            Due.is("caught behind " + k, y.count(4), k < 3 ? 3 : 0);
            Due.is("hour behind " + k, y.count(15), k < 3 ? 1 : 0);
            Due.is("doors behind " + k, y.room(2, 1) + 100 * y.room(3, 1), k < 4 ? 10 + 100 * 20 : k < 5 ? 2 + 100 * 16 : k < 6 ? 2 : 0);
        }
        for (int k = 0; k < 20; k++) {
            x.door(0, 1 + k % 5);
        }
        Due.is("16 are kept", x.count(7), 16);
        for (int k = 0; k < 16; k++) {
            Due.is("undo", x.undo(), 2);
        }
        Due.refused(x, "the 17th", x.undo(), -3);
        Due.is("four doors are open", x.room(0, 1), 30);
        Due.orders(x, "pass times 10; door 0 by 1 times 8; pass");
        Due.is("16 of the orders", x.count(7), 16);
        Due.is("the latest of the orders", x.undo(), 3);
        Due.is("the one ahead", x.undo(), 2);
        Due.orders(x, "pass times 20; stride 9 to 9");
        Due.is("orders that could not be leave it", x.count(7), 14);
        for (int k = 0; k < 7; k++) {
            Due.is("undo", x.undo(), 2);
        }
        Due.is("hours of the orders", x.undo(), 3);
        Due.is("hour 9", x.count(15), 9);
    }

    /** Promise 27: what ends it. */
    private static void whatEndsUndoing() {
        LowerHalf x = Due.ladder(0, 0);
        x.image(0);
        for (int k = 0; k < 12; k++) {
            x.door(0, 1);
            boolean ends = k < 6;
            switch (k) {
                case 0 -> x.perch(0, 0);
                case 1 -> x.folk(1, 0);
                case 2 -> x.badger(0);
                case 3 -> x.thing(0, 0, 0);
                case 4 -> x.terms(2, 0);
                case 5 -> x.back(0);
                case 6 -> x.perch(9, 9);
                case 7 -> x.folk(1, 9);
                case 8 -> x.badger(9);
                case 9 -> x.thing(9, 0, 0);
                case 10 -> x.terms(9, 9);
                default -> x.back(1);
            }
            Due.is("can be undone behind " + k, x.count(7), ends ? 0 : k - 5);
        }
        x.link(0, 1, 2);
        Due.law(x, "bars");
        x.force(0);
        x.seen(1, 1);
        x.forget();
        x.image(1);
        x.dusks(1, 1);
        Due.row(x, 0, 1, 2);
        Due.is("left by all others", x.count(7), 6);
    }

    /** Promises 45 and 46. */
    private static void images() {
        LowerHalf x = Due.ladder(1, 2, 3);
        x.badger(1);
        x.thing(0, 3, 4);
        x.door(0, 1);
        x.terms(1, 4);
        x.terms(2, 5);
        x.seen(7, 3);
        Due.under(x, "theirs 3");
        x.pass();
        Due.refused(x, "back to none", x.back(0), -2);
        Due.refused(x, "back 2", x.back(2), -1);
        Due.refused(x, "back -1", x.back(-1), -1);
        Due.refused(x, "image 2", x.image(2), -1);
        Due.refused(x, "image -1", x.image(-1), -1);
        Due.isWith(x, "image", x.image(1), 0, 0);
        x.perch(5, 5);
        x.folk(9, 3);
        x.badger(5);
        x.thing(3, 9, 9);
        x.link(0, 1, 2);
        x.door(0, 1);
        x.stride(0, 1);
        x.put(0, 2);
        x.terms(0, 100);
        x.terms(1, 9);
        x.terms(2, 9);
        x.forget();
        Due.law(x, "theirs 9");
        x.force(1);
        x.dusks(3, 3);
        x.pass();
        int dusk = x.drawn(1, 0);
        Due.tell(x, "xyz");
        Due.isWith(x, "back", x.back(1), 0, 0);
        int[] due = {3, 1, 1, 1, 0, 1, 1, 0, 3, 4, 1, 0, 0, 0, 0, 1, 4, 5};
        for (int what = 0; what < due.length; what++) {
            Due.is("count behind back " + what, x.count(what), due[what]);
        }
        Due.is("folk", x.of(0, 1), 0);
        Due.is("thing", x.has(0, 0), 0);
        Due.is("strides", x.at(0, 4), 1);
        Due.is("doors", x.room(1, 1), 1);
        Due.is("badger", x.sow(0, 0), 1);
        Due.is("theirs", x.room(0, 0), 3);
        Due.is("drawn stays", x.drawn(1, 0), dusk);
        Due.is("no law 1", x.compare(1, 0), -1);
        Due.is("seen", x.canBe(), 0);
        LowerHalf y = new LowerHalf();
        y.image(0);
        y.perch(3, 4);
        y.perch(3, 5);
        y.folk(6, 1);
        y.badger(2);
        y.thing(1, 7, 8);
        y.seen(9, 2);
        Due.law(y, "theirs 5");
        y.image(1);
        y.back(0);
        for (int what = 0; what <= 8; what++) {
            Due.is("an empty house again: count " + what, y.count(what), 0);
        }
        y.perch(1, 1);
        y.perch(1, 1);
        y.folk(1, 0);
        y.badger(3);
        y.thing(0, 1, 1);
        y.seen(1, 1);
        Due.law(y, "theirs 6");
        y.back(1);
        int[] all = {y.at(1, 0), y.at(1, 1), y.of(0, 0), y.of(0, 1), y.sow(0, 0), y.has(0, 0), y.has(0, 1), y.has(0, 2),
            y.canBe(), y.compare(0, 0)};
        int[] dueAll = {3, 5, 6, 1, 2, 1, 7, 8, 1, 5};
        for (int k = 0; k < all.length; k++) {
            Due.is("what the image keeps " + k, all[k], dueAll[k]);
        }
        y.door(2, 3);
        Due.is("seen where and when", y.canBe(), 0);
        Due.under(y, "goes room; goes 3 if hour=9");
        Due.is("seen at that hour", y.canBe(), 1);
        x.perch(0, 9);
        Due.isWith(x, "back again: images stay", x.back(1), 0, 0);
        Due.is("perches", x.count(0), 3);
        x.image(0);
        x.perch(0, 9);
        x.image(1);
        x.back(0);
        Due.is("image 0", x.count(0), 3);
        x.back(1);
        Due.is("image 1 anew", x.count(0), 4);
    }

    public static void main(String[] args) {
        forces();
        strides();
        putsAndDoors();
        passes();
        undone();
        whatEndsUndoing();
        images();
        Due.end("DeedsTest");
    }
}
