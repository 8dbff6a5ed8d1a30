/** Promises 28 to 44: what is reckoned on paper. */
public final class PaperTest {
    /** Promise 28. */
    private static void soonest() {
        LowerHalf x = Due.ladder(9, 9, 9, 9);
        Due.is("there", x.soonest(0, 0, -1), 0);
        Due.is("there: no perch", x.soonest(0, 0, 0), -1);
        Due.is("three hours", x.soonest(0, 3, -1), 3);
        for (int k = 0; k < 3; k++) {
            Due.is("perch behind " + k, x.soonest(0, 3, k), k + 1);
        }
        Due.is("not so many", x.soonest(0, 3, 3), -1);
        Due.is("i -2", x.soonest(0, 3, -2), -1);
        Due.is("no folk", x.soonest(1, 0, -1), -1);
        Due.is("no perch", x.soonest(0, 4, -1), -1);
        // it starts where it is not safe, yet can't stay there
        LowerHalf y = Due.ladder(0, 9, 0);
        Due.is("away from where it is not safe", y.soonest(0, 1, -1), 1);
        Due.is("the last must be safe, too: at 6", y.soonest(0, 2, -1), 6);
        int[] row = {1, 1, 1, 1, 1, 2};
        for (int k = 0; k < 6; k++) {
            Due.is("row " + k, y.soonest(0, 2, k), row[k]);
        }
        // two ways of the same length: the first row goes over the lower perch
        LowerHalf z = new LowerHalf();
        for (int k = 0; k < 5; k++) {
            z.perch(0, 9);
        }
        z.folk(1, 4);
        z.link(4, 3, 1);
        z.link(3, 0, 1);
        z.link(4, 1, 1);
        z.link(1, 0, 1);
        Due.is("lower perch first", z.soonest(0, 0, 0), 1);
        Due.under(z, "bars if perch=1 and hour=0; bars if perch=3 and hour<3");
        Due.is("barred as the hour is then", z.soonest(0, 0, -1), 3);
        Due.is("waits", z.soonest(0, 0, 0), 4);
        Due.is("goes on", z.soonest(0, 0, 1), 1);
        Due.under(z, "bars if perch=0 and hour<47");
        Due.is("48 hours", z.soonest(0, 0, -1), 48);
        Due.is("the last perch", z.soonest(0, 0, 47), 0);
        Due.is("behind the last", z.soonest(0, 0, 48), -1);
        Due.is("the first row is the lowest", z.soonest(0, 0, 0), 1);
        Due.under(z, "bars if perch=0 and hour<48");
        Due.is("not in 48", z.soonest(0, 0, -1), -1);
        z.terms(0, 990);
        Due.under(z, "bars if perch=0 and hour-10<1000");
        Due.is("hours go on beyond 999", z.soonest(0, 0, -1), 21);
        z.badger(0);
        Due.is("badgers aside", z.soonest(0, 0, -1), 21);
        Due.is("it was on paper", z.of(0, 1), 4);
    }

    /** Promises 29 and 30. */
    private static void nearAndCut() {
        LowerHalf x = Due.ladder(0, 0, 0, 0);
        Due.is("near 0", x.near(0, 0), 1);
        Due.is("near 1", x.near(0, 1), 3);
        Due.is("near 10", x.near(0, 10), 15);
        Due.is("near 11", x.near(0, 11), -1);
        Due.is("near -1", x.near(0, -1), -1);
        Due.is("near of no folk", x.near(1, 1), -1);
        Due.is("cut: it is there", x.cut(0, 0, 0), -1);
        Due.is("cut: one stride", x.cut(0, 1, 0), -1);
        Due.is("cut: how many", x.cut(0, 3, 0), 1);
        Due.is("cut: which", x.cut(0, 3, 1), 2);
        Due.is("cut: what 2", x.cut(0, 3, 2), -1);
        Due.is("cut: what -1", x.cut(0, 3, -1), -1);
        Due.is("cut: no folk", x.cut(1, 3, 0), -1);
        Due.is("cut: no perch", x.cut(0, 4, 0), -1);
        Due.under(x, "bars if perch=2 and clock=0");
        Due.is("barred now", x.near(0, 10), 3);
        Due.is("cut: not near", x.cut(0, 3, 0), 0);
        Due.is("cut: not near, none", x.cut(0, 3, 1), 0);
        x.pass();
        Due.is("not barred now", x.near(0, 10), 15);
        // three ways of two perches each: 0 to 7 over 1-2, 3-4, 5-6
        LowerHalf y = new LowerHalf();
        for (int k = 0; k < 8; k++) {
            y.perch(0, 0);
        }
        y.folk(1, 0);
        Due.row(y, 0, 1, 1, 1, 2, 1, 2, 7, 1, 0, 3, 1, 3, 4, 1, 4, 7, 1, 0, 5, 1, 5, 6, 1, 6, 7, 1);
        Due.is("cut: three", y.cut(0, 7, 0), 3);
        Due.is("cut: the lowest three", y.cut(0, 7, 1), 2 + 8 + 32);
        y.link(1, 6, 1);
        y.link(1, 4, 1);
        Due.is("cut: three still", y.cut(0, 7, 0), 3);
        y.link(2, 7, 0);
        Due.is("cut: two", y.cut(0, 7, 0), 2);
        Due.is("cut: those two", y.cut(0, 7, 1), 16 + 64);
    }

    /** Promise 31. */
    private static void roosts() {
        LowerHalf x = Due.ladder(1, 2, 1, 2);
        Due.is("roost", x.roost(0), 1);
        Due.is("no folk", x.roost(1), -1);
        x.link(0, 1, 0);
        Due.is("none near", x.roost(0), -1);
        x.link(0, 3, 1);
        Due.is("the other", x.roost(0), 3);
        LowerHalf y = Due.ladder(2, 9);
        Due.is("its own", y.roost(0), 0);
        Due.under(y, "theirs 3 if hour=23; theirs 5 if hour=24; theirs 0");
        Due.is("the last that holds", y.roost(0), 0);
        Due.under(y, "theirs 0; theirs 3 if hour=24");
        Due.is("24 hours alone", y.roost(0), 0);
        y.force(0);
        Due.under(y, "theirs 0; theirs 3 if hour=23");
        Due.is("the 23rd behind now", y.roost(0), 1);
        y.terms(0, 990);
        Due.under(y, "theirs 0; theirs 3 if hour-13=1000");
        Due.is("beyond 999", y.roost(0), 1);
        LowerHalf z = Due.ladder(0, 0, 5, 5);
        z.link(0, 3, 1);
        Due.is("fewest strides ahead of the lowest", z.roost(0), 3);
        z.link(0, 2, 1);
        Due.is("the lowest of as many", z.roost(0), 2);
    }

    /** Promises 32 and 33. */
    private static void badgersGo() {
        LowerHalf x = Due.ladder(0);
        x.badger(4);
        x.badger(1);
        for (int room = 0; room < 5; room++) {
            x.door(room, room + 1);
        }
        Due.is("where 0", x.where(0, 0), 4);
        Due.is("where 1", x.where(0, 1), 5);
        Due.is("where 60, the door to 0 is shut", x.where(0, 60), 5);
        Due.is("where 61", x.where(0, 61), -1);
        Due.is("where -1", x.where(0, -1), -1);
        Due.is("where no badger", x.where(2, 0), -1);
        Due.is("meeting none", x.meeting(0, 0), -1);
        x.door(5, 0);
        Due.is("meeting", x.meeting(0, 0), 2);
        Due.is("meeting of the other", x.meeting(0, 1), 5);
        Due.is("meeting no folk", x.meeting(1, 0), -1);
        Due.is("meeting no badger", x.meeting(0, 2), -1);
        Due.under(x, "goes 0 if hour>999 and room=5; goes 5 if hour<1000; goes room");
        Due.under(x, "goes room; goes 0 if hour=59+0");
        Due.is("meeting in 60", x.meeting(0, 0), -1);
        x.door(4, 0);
        Due.is("meeting in 60 through the door", x.meeting(0, 0), 60);
        Due.is("where 59", x.where(0, 59), 4);
        x.terms(0, 990);
        Due.under(x, "goes room; goes 0 if hour=1000");
        Due.is("where beyond 999", x.where(0, 11), 0);
        Due.is("where ahead of it", x.where(0, 10), 4);
        Due.is("it was on paper", x.sow(0, 0), 4);
    }

    /** Promises 34, 36 and 42. */
    private static void rooms() {
        LowerHalf x = Due.ladder(1, 2);
        x.thing(0, 1, 1);
        x.thing(1, 1, 1);
        x.thing(0, 1, 1);
        Due.is("free at 6", x.free(0), 6);
        x.terms(0, 17);
        Due.is("free now", x.free(5), 0);
        x.terms(0, 18);
        Due.is("free in 12", x.free(5), 12);
        Due.is("free 6", x.free(6), -1);
        Due.is("free -1", x.free(-1), -1);
        Due.is("low", x.low(0), 5);
        Due.is("low elsewhere", x.low(1), 0);
        Due.is("low 6", x.low(6), -1);
        Due.is("low -1", x.low(-1), -1);
        Due.under(x, "theirs 1; theirs 0 if hour=66");
        Due.is("free in 48", x.free(0), 48);
        Due.is("low none", x.low(0), 0);
        Due.under(x, "theirs 1; theirs 0 if hour=67");
        Due.is("free not in 48", x.free(0), -1);
        Due.under(x, "theirs 9 if hour=18 and room=0");
        Due.is("low all", x.low(0), 7);
        Due.is("compare none", x.compare(-1, 0), 2);
        Due.is("compare 0", x.compare(0, 0), 1);
        Due.is("compare 2", x.compare(2, 0), 9);
        Due.is("compare 2 elsewhere", x.compare(2, 1), 2);
        Due.is("compare 3", x.compare(3, 0), -1);
        Due.is("compare -2", x.compare(-2, 0), -1);
        Due.is("compare room 6", x.compare(0, 6), -1);
        Due.is("in force still", x.count(14), 2);
    }

    /** Promise 35. */
    private static void shares() {
        LowerHalf x = Due.ladder(0);
        Due.is("no things", x.shares(0), 0);
        Due.is("no things, none", x.shares(1), 0);
        Due.is("what 2", x.shares(2), -1);
        Due.is("what -1", x.shares(-1), -1);
        x.thing(0, 5, 9);
        Due.is("one thing", x.shares(0), 0);
        Due.is("one thing: the lowest", x.shares(1), 0);
        x.thing(0, 5, 9);
        Due.is("two things", x.shares(0), 5);
        Due.is("two things: the lowest", x.shares(1), 1);
        x.thing(0, 9, 1);
        Due.is("three things", x.shares(0), 9);
        Due.is("three things: that which folk would have", x.shares(1), 4);
        x.thing(0, 2, 0);
        Due.is("four things", x.shares(0), 11);
        Due.is("four things: part", x.shares(1), 12);
    }

    /** Promises 37 to 40. */
    private static void sightings() {
        LowerHalf x = new LowerHalf();
        Due.is("nobody", x.canBe(), 0);
        Due.is("look at nobody", x.look(0), -1);
        x.badger(0);
        x.badger(0);
        x.badger(2);
        x.door(0, 1);
        x.door(2, 3);
        Due.is("all", x.canBe(), 7);
        Due.is("look", x.look(0), 0);
        Due.is("how many", x.look(1), 2);
        Due.is("look 2", x.look(2), -1);
        Due.is("look -1", x.look(-1), -1);
        Due.isWith(x, "seen", x.seen(0, 0), 1, 0);
        Due.is("two can be", x.canBe(), 3);
        Due.under(x, "goes room; goes 1 if badger=1 and hour=4");
        Due.is("apart in 5", x.look(0), 5);
        Due.is("one left", x.look(1), 1);
        Due.isWith(x, "seen again", x.seen(5, 1), 2, 0);
        Due.is("one can be", x.canBe(), 2);
        Due.is("look at it now", x.look(0), 0);
        x.terms(0, 1);
        Due.is("from now: later no more", x.canBe(), 2);
        x.terms(0, 5);
        Due.is("from now on none", x.canBe(), 0);
        Due.is("look at none", x.look(1), -1);
        Due.refused(x, "seen in 61", x.seen(61, 0), -1);
        Due.refused(x, "seen in -1", x.seen(-1, 0), -1);
        Due.refused(x, "seen in room 6", x.seen(0, 6), -1);
        x.door(4, 5);
        for (int k = 3; k <= 6; k++) {
            Due.isWith(x, "seen " + k, x.seen(60, 5), k, 0);
        }
        Due.refused(x, "the 7th", x.seen(0, 0), -5);
        Due.refused(x, "the 7th, badly", x.seen(0, 9), -1);
        Due.is("seen leaves what can be undone", x.count(7), 1);
        Due.is("forget", x.forget(), 6);
        Due.is("forget again", x.forget(), 0);
        Due.is("all again", x.canBe(), 7);
        LowerHalf y = new LowerHalf();
        y.badger(0);
        y.badger(0);
        y.door(0, 1);
        Due.under(y, "goes room; goes 1 if badger=0 and hour=59");
        Due.is("look in 60", y.look(0), 60);
        y.terms(0, 999);
        Due.under(y, "goes room; goes 1 if badger=0 and hour-1=1000");
        Due.is("look beyond 999", y.look(0), 3);
    }

    /** Promise 41. */
    private static void few() {
        LowerHalf x = new LowerHalf();
        Due.is("fewer than 1 of 0", x.few(1, 0), 1_000_000_000_000L);
        Due.is("fewer than 1 of 1", x.few(1, 1), 900_000_000_000L);
        Due.is("fewer than 2 of 2", x.few(2, 2), 990_000_000_000L);
        Due.is("fewer than 20 of 19", x.few(20, 19) > 999_999_999_000L ? 1 : 0, 1);
        Due.is("k 0", x.few(0, 1), -1);
        Due.is("k 21", x.few(21, 1), -1);
        Due.is("n -1", x.few(1, -1), -1);
        Due.is("n 100", x.few(1, 100), -1);
        x.terms(1, 3);
        long p = 1_000_000_000_000L;
        for (int k = 0; k < 99; k++) {
            p = p * 7 / 10;
        }
        Due.is("99 of whom none snores, cut each time", x.few(1, 99), p);
        x.terms(1, 10);
        Due.is("all snore", x.few(3, 3), 0);
        Due.is("all three snore", x.few(4, 3), 1_000_000_000_000L);
        x.terms(1, 0);
        Due.is("none snores", x.few(1, 99), 1_000_000_000_000L);
    }

    /** Promises 43 and 44. */
    private static void dusks() {
        LowerHalf x = new LowerHalf();
        Due.refused(x, "seed -1", x.dusks(-1, 1), -1);
        Due.refused(x, "seed too large", x.dusks(1_000_001, 1), -1);
        Due.refused(x, "n 0", x.dusks(0, 0), -1);
        Due.refused(x, "n 61", x.dusks(0, 61), -1);
        Due.refused(x, "no folk", x.dusks(0, 1), -3);
        x.perch(0, 0);
        Due.refused(x, "perches, no folk", x.dusks(0, 1), -3);
        x = Due.ladder(0, 0, 0);
        x.folk(5, 1);
        x.badger(0);
        // seed 0 draws 12345 (folk 1), 628841 (perch 2), 621889 (of 4: 1)
        Due.isWith(x, "one dusk", x.dusks(0, 1), 2, 0);
        Due.is("drawn 0", x.drawn(0, 0), 0);
        Due.is("drawn 1", x.drawn(1, 0), 2);
        Due.is("drawn badger", x.drawn(0, 1), 0);
        Due.is("drawn folk 2", x.drawn(2, 0), -1);
        Due.is("drawn badger 1", x.drawn(1, 1), -1);
        Due.is("drawn what 2", x.drawn(0, 2), -1);
        Due.is("drawn -1", x.drawn(-1, 0), -1);
        Due.is("it was on paper", x.of(1, 1), 1);
        Due.is("caught as it was", x.count(4), 0);
        x.folk(5, 2);
        Due.is("one that came behind the dusks", x.drawn(2, 0), -1);
        Due.refused(x, "refused dusks", x.dusks(0, 61), -1);
        Due.is("leave the latest", x.drawn(1, 0), 2);
        x.terms(0, 997);
        Due.under(x, "theirs 9");
        Due.is("two hours alone", x.dusks(0, 60), 6);
        x.terms(0, 999);
        Due.isWith(x, "none at 999", x.dusks(0, 60), 0, 0);
        Due.is("drawn as they are", x.drawn(1, 0), 1);
        LowerHalf y = Due.ladder(0, 0);
        // seed 19 draws 33302 (of 1), 744343 (perch 1), 20211 (of 4: 3)
        y.dusks(19, 1);
        Due.is("3: nothing", y.drawn(0, 0), 0);
        Due.isWith(y, "the largest seed", y.dusks(1_000_000, 60), 0, 0);
    }

    public static void main(String[] args) {
        soonest();
        nearAndCut();
        roosts();
        badgersGo();
        rooms();
        shares();
        sightings();
        few();
        dusks();
        Due.end("PaperTest");
    }
}
