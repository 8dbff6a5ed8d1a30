/** Promises 23 to 27, 45 and 46, sentence by sentence: deeds, what can be undone, images. */
public final class EdgesDeedsTest {
    /** As many hours as one text can tell: with four caught in each 960. */
    private static final String HOURS_240 = "orders'pass times 20" + ";pass times 20".repeat(11) + "'=240 ";
    private static final String FOUR_CAUGHT = "perch(0, 0)=0 folk(1, 0)=0 folk(1, 0)=1 folk(1, 0)=2 folk(1, 0)=3 badger(0)=0 law'theirs 1'=0 "
            + "force(0)=-1 ";

    private static void promise23() {
        Runs.run(23, "whether it is safe there now", Runs.ladder(0, 2, 1), "stride(0, 1)=1 stride(0, 2)=0 stride(0, 1)=1 of(0, 1)=1",
            "terms(0, 6)=0 stride(0, 2)=1 terms(0, 18)=6 stride(0, 1)=1 stride(0, 0)=0");
        Runs.run(23, "whether it is safe by the law, in the room to which it came", "perch(0, 5)=0 perch(1, 5)=1 folk(1, 0)=0 link(0, 1, 1)=0",
            "door(0, 1)=1 law'theirs 5+room'=0 force(0)=-1",
            "stride(0, 1)=0 stride(0, 0)=1");
        Runs.run(23, "-2: no such folk, perch", "stride(0, 0)!-2", Runs.ladder(0, 0), "stride(-1, 1)!-2 stride(1, 1)!-2 stride(0, -1)!-2 stride(0,",
            "2)!-2 stride(MIN, 0)!-2 stride(0, MAX)!-2",
            "stride(4, 1)!-2 stride(0, 10)!-2 count(7)=0 stride(0, 1)=0");
        Runs.run(23, "folk 3, perch 9 are the last", Runs.perches(10), "link(0, 9, 1)=0 folk(1, 0)=0 folk(1, 0)=1 folk(1, 0)=2 folk(1, 0)=3",
            "stride(3, 9)=0 stride(4, 9)!-2 stride(3, 10)!-2 of(3, 1)=9");
        Runs.run(23, "-3: to the perch on which it is", Runs.ladder(0, 0), "stride(0, 0)!-3 of(0, 1)=0 count(7)=0");
        Runs.run(23, "strides no longer than its legs, else -3", Runs.perches(3), "folk(4, 0)=0 link(0, 1, 5)=0 link(0, 2, 4)=0 stride(0, 1)!-3",
            "of(0, 1)=0 stride(0, 2)=0 of(0, 1)=2 stride(0, 1)!-3 stride(0, 0)=0");
        Runs.run(23, "the longest legs and strides", Runs.perches(2), "folk(9, 0)=0 folk(8, 0)=1 link(0, 1, 9)=0 stride(1, 1)!-3 stride(0, 1)=0");
        Runs.run(23, "there are no strides: -3", Runs.ladder(0, 0), "link(0, 1, 0)=1 stride(0, 1)!-3 count(7)=0");
        Runs.run(23, "the door between their rooms is open, else -3; of one room: always", "perch(0, 0)=0 perch(1, 0)=1 perch(0, 0)=2 folk(1, 0)=0",
            "link(0, 1, 1)=0 link(0, 2, 1)=0",
            "stride(0, 2)=0 stride(0, 0)=0 stride(0, 1)!-3 door(1, 0)=1 stride(0, 1)=0 door(0, 1)=0 stride(0, 0)!-3 of(0, 1)=1");
        Runs.run(23, "barred: -3, as hour is", Runs.ladder(0, 0), "law'bars if perch=1 and hour=7'=0 force(0)=-1 terms(0, 7)=0 stride(0, 1)!-3",
            "terms(0, 8)=7 stride(0, 1)=1 terms(0, 7)=8 stride(0, 0)=1");
        Runs.run(23, "-2 ahead of -3", Runs.ladder(0, 0), "stride(1, 0)!-2 stride(0, 2)!-2 stride(0, 0)!-3");
        Runs.run(23, "a refused one is no deed", Runs.ladder(0, 0, 0), "door(0, 1)=1 stride(0, 2)!-3 stride(0, 3)!-2 count(7)=1 undo()=2");
    }

    private static void promise24() {
        Runs.run(24, "the perch on which it was", Runs.perches(3), "thing(2, 0, 0)=0 thing(1, 0, 0)=1 put(0, 0)=2 has(0, 0)=0 put(0, 1)=0 put(1,",
            "2)=1 has(0, 0)=1 has(1, 0)=2");
        Runs.run(24, "-2: no such thing, perch", "put(0, 0)!-2", Runs.perches(2), "thing(0, 0, 0)=0 put(-1, 1)!-2 put(1, 1)!-2 put(0, -1)!-2 put(0,",
            "2)!-2 put(MIN, 0)!-2 put(0, MAX)!-2 has(0, 0)=0 count(7)=0");
        Runs.run(24, "thing 5, perch 9 are the last", Runs.perches(10), "thing(0, 0, 0)=0 thing(0, 0, 0)=1 thing(0, 0, 0)=2 thing(0, 0, 0)=3",
            "thing(0, 0, 0)=4 thing(0, 0, 0)=5",
            "put(6, 9)!-2 put(5, 10)!-2 put(5, 9)=0 has(5, 0)=9");
        Runs.run(24, "-3: it is there; -2 ahead of it", Runs.perches(1), "thing(0, 0, 0)=0 put(0, 0)!-3 put(1, 0)!-2 put(0, 1)!-2 count(7)=0");
        Runs.run(24, "whatever rooms, doors, strides, laws there are", "perch(0, 0)=0 perch(5, 9)=1 thing(0, 0, 0)=0 law'bars'=0 force(0)=-1 put(0,",
            "1)=0 has(0, 0)=1");
    }

    private static void promise25() {
        Runs.run(25, "rooms 0 .. 5", "door(-1, 0)!-1 door(0, -1)!-1 door(0, 5)=1 door(5, 0)=0 door(6, 0)!-1 door(0, 6)!-1 door(MIN, 0)!-1 door(0,",
            "MAX)!-1 door(32, 0)!-1 door(0, 32)!-1 room(0, 1)=0");
        Runs.run(25, "-1: one alone, too", "door(0, 0)!-1 door(5, 5)!-1 door(-1, -1)!-1 room(0, 1)=0 count(7)=0");
        Runs.run(25, "whether it is open then", "door(1, 2)=1 room(1, 1)=4 room(2, 1)=2 door(2, 1)=0 room(1, 1)=0 room(2, 1)=0 door(2, 1)=1 door(1,",
            "2)=0");
        Runs.run(25, "each door for itself", "door(1, 2)=1 door(1, 3)=1 door(2, 3)=1 door(1, 2)=0 room(1, 1)=8 room(2, 1)=8 room(3, 1)=6");
    }

    private static void promise26() {
        Runs.run(26, "one for each of the folk that is not safe in a room in which there is a badger",
            "perch(0, 0)=0 perch(0, 1)=1 perch(0, 2)=2 perch(1, 0)=3",
            "folk(1, 0)=0 folk(1, 1)=1 folk(1, 2)=2 folk(1, 3)=3 pass()=0 badger(0)=0 pass()=2 count(4)=2 badger(0)=1 pass()=2 badger(1)=2 pass()=3",
            "count(4)=7");
        Runs.run(26, "all four on one perch", Runs.perches(1), "folk(1, 0)=0 folk(1, 0)=1 folk(1, 0)=2 folk(1, 0)=3 badger(0)=0 badger(0)=1 pass()=4",
            "count(4)=4");
        Runs.run(26, "no folk, no badgers: hours pass", "pass()=0 count(15)=1 badger(0)=0 pass()=0 count(15)=2");
        Runs.run(26, "asked as it was ahead: the hour", Runs.ladder(0), "badger(0)=0 terms(0, 5)=0 pass()=1 pass()=0 terms(0, 17)=7 pass()=0",
            "pass()=1");
        Runs.run(26, "asked as it was ahead: where badgers were; then they go, as hour was", Runs.ladder(0),
            "badger(0)=0 badger(5)=1 door(0, 1)=1 door(5, 0)=1 pass()=1 sow(0, 0)=1 sow(1, 0)=0 pass()=1 sow(1, 0)=1 pass()=0 count(4)=2");
        Runs.run(26, "safe by the law, in the room of the perch", "perch(3, 4)=0 perch(2, 4)=1 perch(0, 4)=2 perch(1, 4)=3 folk(1, 0)=0 folk(1, 1)=1 folk(1, 2)=2",
            "folk(1, 3)=3 badger(0)=0 badger(1)=1 badger(3)=2 law'theirs 5 if room=3'=0 law'theirs 5 if room=2'=1 law'theirs 5 if room<2; theirs 4 if room>1'=2",
            "pass()=0 force(0)=-1 pass()=1 force(1)=0 pass()=0 force(2)=1 pass()=2 count(4)=3");
        Runs.run(26, "badgers go by the law at that hour", "badger(0)=0 door(0, 1)=1 door(0, 3)=1 law'goes 3 if hour=1; goes room if hour=0'=0",
            "force(0)=-1 pass()=0 sow(0, 0)=0 pass()=0 sow(0, 0)=3");
        Runs.run(26, "all badgers go at once", "badger(0)=0 badger(1)=1 badger(2)=2 door(0, 1)=1 door(1, 2)=1 door(2, 3)=1 pass()=0 sow(0, 0)=1",
            "sow(1, 0)=2 sow(2, 0)=3");
        Runs.run(26, "the hour is one more; at 999 it can't be: -3", "terms(0, 998)=0 pass()=0 count(15)=999 pass()!-3 count(15)=999 count(7)=1",
            "terms(0, 0)=999 pass()=0 count(15)=1");
        Runs.run(26, "at 999 nothing is caught, nobody goes", FOUR_CAUGHT, "terms(0, 999)=0 door(0, 1)=1 pass()!-3 count(4)=0 sow(0, 0)=0 count(7)=1",
            "terms(0, 998)=999 pass()=4 count(4)=4 sow(0, 0)=1");
        Runs.run(26, "999 at most; it tells what that cuts off, too", FOUR_CAUGHT, HOURS_240, "count(4)=960 orders'pass times 9'=9 count(4)=996",
            "pass()=4 count(4)=999 pass()=4 count(4)=999",
            "undo()=3 count(4)=999 undo()=3 count(4)=996 folk(1, 0)!-5 orders'pass; door 0 by 1 if latest=4 and caught=999; pass; door 0 by 2 if",
            "latest=4 and caught=999'=4 count(4)=999");
        Runs.run(26, "999 to the last", "perch(0, 0)=0 folk(1, 0)=0 folk(1, 0)=1 folk(1, 0)=2 badger(0)=0 law'theirs 1'=0 force(0)=-1", HOURS_240,
            "orders'pass times 20; pass times 20; pass times 20; pass times 20; pass times 12'=92",
            "count(4)=996 pass()=3 count(4)=999 pass()=3 count(4)=999");
    }

    private static void promise27() {
        Runs.run(27, "-3: there is none", "undo()!-3 pass()=0 undo()=3 undo()!-3 count(7)=0");
        Runs.run(27, "which: 0 a stride, 1 put, 2 a door, 3 an hour, the latest first", Runs.ladder(0, 0),
            "thing(0, 0, 0)=0 stride(0, 1)=0 put(0, 1)=0 door(0, 1)=1 pass()=0 count(7)=4",
            "undo()=3 count(15)=0 count(7)=3 undo()=2 room(0, 1)=0 room(1, 1)=0 undo()=1 has(0, 0)=0 undo()=0 of(0, 1)=0 count(7)=0 undo()!-3");
        Runs.run(27, "each of the folk, the things, the doors for itself", Runs.ladder(0, 0, 0, 0), "folk(1, 1)=1 folk(1, 2)=2 folk(1, 3)=3",
            "thing(3, 0, 0)=0 thing(2, 0, 0)=1 thing(1, 0, 0)=2 stride(3, 2)=0 stride(1, 2)=0 put(2, 3)=1 put(1, 0)=2 door(3, 5)=1 stride(1, 3)=0",
            "undo()=0 of(1, 1)=2 undo()=2 room(3, 1)=0 room(5, 1)=0 undo()=1 has(1, 0)=2 has(2, 0)=3 undo()=1 has(2, 0)=1 has(0, 0)=3",
            "undo()=0 of(1, 1)=1 of(3, 1)=2 undo()=0 of(3, 1)=3 of(0, 1)=0 of(2, 1)=2");
        Runs.run(27, "16 are kept", "door(0, 1)=1 pass()=0*15 count(7)=16 undo()=3*15 undo()=2 undo()!-3 room(0, 1)=0 count(15)=0");
        Runs.run(27, "16 are kept, of 17 the first is not", "door(0, 1)=1 pass()=0*16 count(7)=16 undo()=3*16 undo()!-3 room(0, 1)=2 count(15)=0");
        Runs.run(27, "those of orders, too, one by one", Runs.ladder(0, 0), "thing(0, 0, 0)=0 orders'stride 0 to 1; put 0 on 1; door 0 by 1; pass'=4",
            "count(7)=4 undo()=3 undo()=2 undo()=1 has(0, 0)=0 undo()=0 of(0, 1)=0 undo()!-3");
        Runs.run(27, "16 of the orders", "door(0, 2)=1 orders'pass times 10; door 0 by 1; pass times 6'=17 count(7)=16 undo()=3*6 undo()=2",
            "undo()=3*9 undo()!-3 count(15)=1 room(0, 1)=4");
        Runs.run(27, "orders that could not be leave the 16 that were", "door(0, 1)=1 pass()=0*15 orders'pass times 20; door 1 by 1'!-3 count(7)=16",
            "undo()=3*15 undo()=2 undo()!-3 room(0, 1)=0");
        Runs.run(27, "an hour: where badgers are, caught, hour are as they were", Runs.ladder(0), "badger(0)=0 badger(1)=1 badger(0)=2 door(0, 1)=1",
            "door(1, 2)=1 pass()=1 pass()=0 sow(0, 0)=2 sow(1, 0)=2 count(4)=1",
            "undo()=3 sow(0, 0)=1 sow(1, 0)=2 sow(2, 0)=1 count(4)=1 count(15)=1 undo()=3 sow(0, 0)=0 sow(1, 0)=1 sow(2, 0)=0 count(4)=0",
            "count(15)=0");
        Runs.run(27, "an hour is undone as it was, whatever doors and laws there are now", "badger(0)=0 door(0, 1)=1 pass()=0 law'goes 5'=0",
            "force(0)=-1 sow(0, 0)=1 undo()=3 sow(0, 0)=0 count(14)=0");
        Runs.run(27, "the last hour is undone", "terms(0, 998)=0 pass()=0 count(15)=999 undo()=3 count(15)=998");
        Runs.run(27, "caught at 999 is undone", FOUR_CAUGHT, HOURS_240, "orders'pass times 11'=11 count(4)=999 undo()=3 count(4)=999 undo()=3",
            "count(4)=996 undo()=3 count(4)=992");
        Runs.run(27, "an undone one is not undone again; what comes then is", "door(0, 1)=1 door(0, 2)=1 undo()=2 door(0, 3)=1 count(7)=2 undo()=2",
            "room(0, 1)=2 undo()=2 undo()!-3");
        Runs.run(27, "a shut door is open again", "door(0, 1)=1 perch(0, 0)=0 door(1, 0)=0 undo()=2 room(0, 1)=2 room(1, 1)=1");
        String[][] ends = {{"perch(0, 0)=2", "perch(6, 0)!-1"}, {"folk(1, 0)=1", "folk(0, 0)!-1"}, {"badger(0)=0", "badger(6)!-1"},
            {"thing(0, 0, 0)=0", "thing(0, 10, 0)!-1"},
            {"terms(1, 5)=1", "terms(1, 11)!-1"}, {"back(0)=0", "back(2)!-1"}, {"back(0)=0", "back(1)!-2"}};
        for (String[] e : ends) {
            Runs.run(27, "nothing that was ahead of one that was not refused", Runs.ladder(0, 0), "image(0)=0 stride(0, 1)=0",
                "pass()=0 " + e[0] + " count(7)=0 undo()!-3 door(0, 1)=1 undo()=2 undo()!-3");
            Runs.run(27, "a refused one leaves it", Runs.ladder(0, 0), "image(0)=0 stride(0, 1)=0 pass()=0 " + e[1] + " count(7)=2 undo()=3 undo()=0",
                "of(0, 1)=0 count(15)=0 undo()!-3");
        }
        String[] leave = {"link(0, 1, 0)=1", "link(0, 1, 5)=1", "row'0 1 0'=1", "law'bars'=0", "law'theirs 9'=0 force(0)=-1", "seen(0, 0)=1",
            "seen(0, 0)=1 forget()=1", "image(0)=0",
            "dusks(0, 9)=0", "orders'pass if 1=2'=0", "orders'x'!-6", "orders'pass; door 0 by 0'!-3", "feed(0, 0, 0, 0, 0)=20 end(0)=0",
            "soonest(0, 1, -1)=0", "where(0, 60)=-1", "low(0)=0", "near(0, 10)=3"};
        for (String call : leave) {
            Runs.run(27, "others leave it", Runs.ladder(0, 0), "stride(0, 1)=0 door(0, 1)=1 pass()=0 " + call + " count(7)=3 undo()=3 undo()=2",
                "undo()=0 of(0, 1)=0 room(0, 1)=0 count(15)=0 undo()!-3");
        }
    }

    private static void promise45() {
        Runs.run(45, "0; images 0, 1: -1", "image(-1)!-1 image(0)=0 image(1)=0 image(2)!-1 image(MIN)!-1 image(MAX)!-1");
        Runs.run(45, "a refused one keeps nothing", "image(2)!-1 image(-1)!-1 back(0)!-2 back(1)!-2");
        Runs.run(45, "each for itself; kept anew", "image(0)=0 back(1)!-2 perch(0, 0)=0 image(1)=0 back(0)=0 count(0)=0 back(1)=0 count(0)=1",
            "perch(0, 0)=1 image(0)=0 back(1)=0 count(0)=1 back(0)=0 count(0)=2");
        Runs.run(45, "what comes behind it does not change it", Runs.ladder(0, 0), "image(0)=0 stride(0, 1)=0 link(0, 1, 9)=1 back(0)=0 of(0, 1)=0",
            "at(0, 4)=1 stride(0, 1)=0 back(0)=0 of(0, 1)=0");
    }

    private static void promise46() {
        Runs.run(46, "-1, -2 it was not kept", "back(-1)!-1 back(0)!-2 back(1)!-2 back(2)!-1 back(MIN)!-1 back(MAX)!-1 image(1)=0 back(0)!-2",
            "back(1)=0 back(2)!-1");
        Runs.run(46, "images stay", "image(0)=0 perch(0, 0)=0 back(0)=0 count(0)=0 perch(0, 0)=0 back(0)=0 count(0)=0 back(0)=0");
        String full = "perch(1, 2)=0 perch(3, 4)=1 perch(1, 9)=2 link(0, 1, 5)=0 door(1, 3)=1 folk(6, 0)=0 badger(1)=0 thing(2, 3, 4)=0 "
            + "terms(0, 1)=0 terms(1, 2)=1 terms(2, 3)=0 seen(0, 1)=1 law'theirs 9 if room=4'=0 force(0)=-1 image(1)=0 ";
        String[][] kept = {
            {"perches", "perch(5, 5)=3 back(1)=0 count(0)=3 at(3, 0)=-1 perch(2, 7)=3 at(3, 0)=2 at(3, 1)=7 at(0, 0)=1 at(0, 1)=2 at(1, 0)=3 "
            + "at(1, 1)=4"},
            {"strides", "link(0, 1, 2)=5 link(1, 2, 1)=0 back(1)=0 at(0, 4)=5 at(1, 5)=0"},
            {"strides of a row", "row'0 1 0 2 1 8'=2 back(1)=0 at(0, 4)=5 at(1, 5)=0"},
            {"doors", "door(1, 3)=0 door(0, 5)=1 back(1)=0 room(1, 1)=8 room(3, 1)=2 room(0, 1)=0 room(5, 1)=0"},
            {"folk", "folk(9, 2)=1 stride(0, 1)=1 back(1)=0 count(1)=1 of(0, 0)=6 of(0, 1)=0 of(1, 0)=-1"},
            {"badgers", "badger(4)=1 door(1, 2)=1 pass()=0 sow(0, 0)=2 back(1)=0 count(2)=1 sow(0, 0)=1 sow(1, 0)=-1"},
            {"things", "thing(0, 1, 1)=1 put(0, 1)=2 back(1)=0 count(3)=1 has(0, 0)=2 has(0, 1)=3 has(0, 2)=4 has(1, 0)=-1"},
            {"caught and hour", "law'theirs 9'=1 force(1)=0 pass()=1 pass()=1 count(4)=2 back(1)=0 count(4)=0 count(15)=1"},
            {"seen", "seen(9, 3)=2 back(1)=0 count(5)=1 canBe()=1 forget()=1 seen(0, 2)=1 canBe()=0 back(1)=0 canBe()=1 count(5)=1"},
            {"terms", "terms(0, 9)=1 terms(1, 9)=2 terms(2, 9)=3 back(1)=0 count(15)=1 count(16)=2 count(17)=3"},
            {"laws and which is in force", "law'theirs 7'=1 force(1)=0 back(1)=0 count(6)=1 count(14)=0 room(4, 0)=9 room(0, 0)=2 compare(1, "
            + "0)=-1 law'theirs 5'=1 compare(1, 0)=5"},
            {"none in force", "force(-1)=0 image(0)=0 force(0)=-1 back(0)=0 count(14)=-1 back(1)=0 count(14)=0"}};
        for (String[] k : kept) {
            Runs.run(46, "all that it keeps is as it was then: " + k[0], full, k[1]);
        }
        Runs.run(46, "an image of an empty house", "image(0)=0", full, "back(0)=0 count(0)=0 count(1)=0 count(2)=0 count(3)=0 count(4)=0 count(5)=0",
            "count(6)=0 count(14)=-1 count(15)=0 count(16)=1 count(17)=0",
            "room(1, 1)=0 canBe()=0", Runs.perches(2), "at(0, 4)=0 back(1)=0 count(0)=3 at(0, 4)=5 at(1, 1)=4 room(4, 0)=9 of(0, 0)=6 has(0, 2)=4");
        Runs.run(46, "an image of what stands, behind an empty house and one with others", "image(0)=0", full,
            "back(0)=0 perch(5, 5)=0 perch(4, 4)=1 perch(0, 0)=2 link(0, 1, 9)=0 link(1, 2, 8)=0 door(0, 5)=1 folk(9, 1)=0 folk(8, 2)=1 badger(5)=0",
            "badger(4)=1",
            "thing(0, 9, 8)=0 thing(1, 7, 6)=1 terms(0, 99)=0 terms(1, 9)=1 terms(2, 8)=0 seen(1, 5)=1 seen(2, 4)=2 law'theirs 1'=0 law'bars'=1",
            "force(1)=-1 back(1)=0",
            "at(0, 0)=1 at(0, 1)=2 at(1, 0)=3 at(1, 1)=4 at(2, 1)=9 at(0, 4)=5 at(1, 5)=0 room(0, 1)=0 room(1, 1)=8 of(0, 0)=6 of(0, 1)=0 of(1,",
            "0)=-1 sow(0, 0)=1 sow(1, 0)=-1 has(0, 0)=2 has(0, 1)=3 has(0, 2)=4 has(1, 0)=-1",
            "count(15)=1 count(16)=2 count(17)=3 count(5)=1 canBe()=1 count(6)=1 count(14)=0 room(4, 0)=9 compare(1, 0)=-1");
        Runs.run(46, "when and where was seen", "badger(0)=0 door(0, 1)=1 law'goes room; goes 1 if hour=3'=0 force(0)=-1 seen(3, 0)=1 seen(4, 1)=2",
            "image(0)=0 canBe()=1 forget()=2 seen(4, 0)=1 seen(3, 1)=2 canBe()=0 back(0)=0 canBe()=1 count(5)=2 seen(9, 1)=3 image(1)=0 forget()=3",
            "seen(9, 0)=1 canBe()=0 back(1)=0 canBe()=1 count(5)=3 back(0)=0 seen(3, 1)=3 canBe()=0");
        Runs.run(46, "caught to which it goes back", FOUR_CAUGHT, "pass()=4 image(0)=0 pass()=4 count(4)=8 back(0)=0 count(4)=4 count(15)=1");
        Runs.run(46, "the tape is not kept", "image(0)=0 tape'pass'=4 back(0)=0 count(8)=4 orders()=1 tape'pass'=4 image(1)=0 end(0)=0 back(1)=0",
            "count(8)=0");
        Runs.run(46, "fault is not kept", "image(0)=0 law'x'!-6 back(0)=0 fault()=0 image(1)=0 law'bars'=0 back(1)=0 fault()=-1");
        Runs.run(46, "scratches are not kept", "image(0)=0 row'1'=0 back(0)=0 scratches()=1 image(1)=0 row'1 1 1 1'=0 back(1)=0 scratches()=2");
        Runs.run(46, "where orders stopped is not kept", "image(0)=0 orders'door 0 by 0'!-3 back(0)=0 stopped()=0 image(1)=0 orders'pass'=1",
            "back(1)=0 stopped()=-1");
        Runs.run(46, "what can be undone is not kept: nothing, behind back()", "pass()=0 pass()=0 image(0)=0 pass()=0 back(0)=0 count(7)=0 undo()!-3",
            "count(15)=2 pass()=0 undo()=3 undo()!-3");
        Runs.run(46, "the latest dusks are not kept", Runs.ladder(9, 9), "image(0)=0 badger(3)=0 dusks(0, 1)=0 drawn(0, 1)=3 back(0)=0 drawn(0, 1)=3",
            "image(1)=0 dusks(0, 1)=0 drawn(0, 1)=-1 back(1)=0 drawn(0, 1)=-1 count(2)=0");
        Runs.run(46, "how many were refused, and by what, is not kept", "image(0)=0 perch(6, 0)!-1 undo()!-3 row()!-6 back(0)=0 count(9)=1",
            "count(11)=1 count(13)=1 count(10)=0 count(12)=0");
        Runs.run(46, "a refused one leaves all", full, "stride(0, 1)=1 back(0)!-2 back(2)!-1 of(0, 1)=1 count(7)=1 undo()=0");
    }

    public static void main(String[] args) {
        promise23();
        promise24();
        promise25();
        promise26();
        promise27();
        promise45();
        promise46();
        Due.end("EdgesDeedsTest");
    }
}
