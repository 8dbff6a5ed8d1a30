/** Promises 1 to 13, sentence by sentence: the last number that is still right and the first that is not. */
public final class EdgesHouseTest {
    private static final String LADDER = Runs.ladder(0, 0);

    private static void promise1() {
        Runs.run(1, "an empty house: no perches, folk, badgers, things, nothing caught, seen, no laws, nothing to undo, no tape",
            "count(0)=0 count(1)=0 count(2)=0 count(3)=0 count(4)=0 count(5)=0 count(6)=0 count(7)=0 count(8)=0");
        Runs.run(1, "an empty house: nothing was refused, no law is in force, terms as told at first",
            "count(9)=0 count(10)=0 count(11)=0 count(12)=0 count(13)=0 count(14)=-1 count(15)=0 count(16)=1 count(17)=0");
        Runs.run(1, "an empty house: nothing is there to be asked of",
            "at(0, 0)=-1 at(0, 3)=-1 of(0, 0)=-1 sow(0, 0)=-1 has(0, 0)=-1 can(0, 0)=-1 near(0, 0)=-1 roost(0)=-1",
            "soonest(0, 0, -1)=-1 cut(0, 0, 0)=-1 where(0, 0)=-1 meeting(0, 0)=-1 compare(0, 0)=-1 drawn(0, 0)=-1 drawn(0, 1)=-1",
            "canBe()=0 look(0)=-1 look(1)=-1 shares(0)=0 shares(1)=0 low(0)=0 low(5)=0 forget()=0 end(0)=0 end(1)=-1");
        Runs.run(1, "an empty house: no texts, no rows, no orders ahead of any",
            "fault()=-1 stopped()=-1 scratches()=0 status()=0 undo()!-3 back(0)!-2 back(1)!-2 row()!-6 force(0)!-2");
        for (int room = 0; room < 6; room++) {
            Runs.run(1, "an empty house: room " + room + " has no open door, no badger, is theirs as at hour 0",
                "room(" + room + ", 0)=2 room(" + room + ", 1)=0 room(" + room + ", 2)=0 free(" + room + ")=6");
        }
        Runs.run(1, "NONE is no law in force: forcing none tells none", "force(-1)=-1 count(14)=-1");
    }

    private static void promise2() {
        Runs.run(2, "rooms 0 .. 5", "perch(-1, 0)!-1 perch(0, 0)=0 perch(5, 0)=1 perch(6, 0)!-1 perch(MIN, 0)!-1 perch(MAX, 0)!-1",
            "count(0)=2 at(0, 0)=0 at(1, 0)=5 at(2, 0)=-1");
        Runs.run(2, "high 0 .. 9", "perch(0, -1)!-1 perch(0, 0)=0 perch(0, 9)=1 perch(0, 10)!-1 perch(0, MIN)!-1 perch(0, MAX)!-1",
            "count(0)=2 at(0, 1)=0 at(1, 1)=9 at(2, 1)=-1");
        Runs.run(2, "its number: 0 on, 10 at most, -5", Runs.perches(10), "perch(0, 0)!-5 perch(5, 9)!-5 count(0)=10");
        Runs.run(2, "-1 ahead of -5", Runs.perches(10), "perch(6, 0)!-1 perch(-1, 0)!-1 perch(0, 10)!-1 perch(0, -1)!-1 count(0)=10");
        Runs.run(2, "a new perch has no strides", Runs.perches(3), "at(2, 3)=0 at(2, 4)=0 at(2, 5)=0 at(0, 5)=0");
        Runs.run(2, "what could be undone is not any more; a refused one leaves it",
            "door(0, 1)=1 perch(6, 0)!-1 perch(0, 10)!-1 count(7)=1 perch(0, 0)=0 count(7)=0 undo()!-3 room(0, 1)=2",
            Runs.perches(10).substring(Runs.perches(1).length()), "door(0, 1)=0 perch(0, 0)!-5 count(7)=1 undo()=2");
    }

    private static void promise3() {
        Runs.run(3, "a perch that is not there: none", "at(0, 0)=-1 perch(3, 4)=0 at(0, 0)=3 at(-1, 0)=-1 at(1, 0)=-1 at(1, 1)=-1",
            "at(1, 2)=-1 at(1, 3)=-1 at(10, 0)=-1 at(MIN, 0)=-1 at(MAX, 0)=-1");
        Runs.run(3, "the room (0), high (1)", "perch(5, 9)=0 perch(2, 7)=1 at(0, 0)=5 at(0, 1)=9 at(1, 0)=2 at(1, 1)=7");
        Runs.run(3, "what 0 .. 3 + p for a perch p that is there: none for others", Runs.perches(2),
            "link(0, 1, 7)=0 at(1, -1)=-1 at(1, MIN)=-1 at(1, 3)=7 at(1, 4)=0 at(1, 5)=-1 at(1, 12)=-1 at(1, 13)=-1 at(1, MAX)=-1");
        Runs.run(3, "what 12 is perch 9, what 13 is none", Runs.perches(10),
            "link(8, 9, 9)=0 link(0, 9, 1)=0 at(8, 12)=9 at(0, 12)=1 at(9, 3)=1 at(9, 11)=9 at(9, 12)=0 at(8, 13)=-1");
        Runs.run(3, "long 0: none; both ways; a perch of itself", Runs.perches(3),
            "link(0, 2, 5)=0 at(0, 5)=5 at(2, 3)=5 at(0, 4)=0 at(1, 3)=0 at(0, 3)=0 at(2, 5)=0");
        Runs.run(3, "safe: as high as its room is theirs, or more", "perch(0, 1)=0 perch(0, 2)=1 perch(0, 3)=2",
            "at(0, 2)=0 at(1, 2)=1 at(2, 2)=1");
        Runs.run(3, "safe now: from clock 18 to clock 5 theirs is 2", "perch(1, 1)=0 terms(0, 5)=0 at(0, 2)=0 terms(0, 6)=5 at(0, 2)=1",
            "terms(0, 17)=6 at(0, 2)=1 terms(0, 18)=17 at(0, 2)=0 terms(0, 29)=18 at(0, 2)=0 terms(0, 30)=29 at(0, 2)=1");
        Runs.run(3, "safe by the law that is in force, in its own room", "perch(0, 9)=0 perch(1, 9)=1 law'theirs 10 if room=1'=0",
            "at(1, 2)=1 force(0)=-1 at(0, 2)=1 at(1, 2)=0 law'theirs 9'=1 force(1)=0 at(1, 2)=1");
        Runs.run(3, "safe whether there is a badger or not", "perch(0, 2)=0 perch(0, 1)=1 badger(0)=0 at(0, 2)=1 at(1, 2)=0");
    }

    private static void promise4() {
        Runs.run(4, "legs 1 .. 9", Runs.perches(1), "folk(0, 0)!-1 folk(-1, 0)!-1 folk(MIN, 0)!-1 folk(1, 0)=0 folk(9, 0)=1",
            "folk(10, 0)!-1 folk(MAX, 0)!-1 count(1)=2 of(0, 0)=1 of(1, 0)=9");
        Runs.run(4, "the perch: -2", "folk(1, 0)!-2 perch(0, 0)=0 perch(0, 0)=1 folk(1, -1)!-2 folk(1, 0)=0 folk(1, 1)=1 folk(1, 2)!-2",
            "folk(1, MIN)!-2 folk(1, MAX)!-2 count(1)=2 of(0, 1)=0 of(1, 1)=1");
        Runs.run(4, "the perch 9 is the last, 10 none", Runs.perches(10), "folk(1, 10)!-2 folk(1, 9)=0 of(0, 1)=9");
        Runs.run(4, "4 at most: -5", Runs.perches(1), "folk(1, 0)=0 folk(1, 0)=1 folk(1, 0)=2 folk(1, 0)=3 folk(1, 0)!-5 count(1)=4");
        Runs.run(4, "-1 ahead of -2 ahead of -5", Runs.perches(1), "folk(0, 1)!-1 folk(10, -1)!-1",
            "folk(1, 0)=0 folk(1, 0)=1 folk(1, 0)=2 folk(1, 0)=3 folk(0, 0)!-1 folk(10, 1)!-1 folk(1, 1)!-2 folk(1, -1)!-2 count(1)=4");
        Runs.run(4, "what could be undone is not any more; a refused one leaves it", Runs.perches(1),
            "door(0, 1)=1 folk(0, 0)!-1 folk(1, 1)!-2 count(7)=1 folk(1, 0)=0 count(7)=0 undo()!-3",
            "folk(1, 0)=1 folk(1, 0)=2 folk(1, 0)=3 door(0, 1)=0 folk(1, 0)!-5 count(7)=1");
    }

    private static void promise5() {
        Runs.run(5, "none such", "of(0, 0)=-1", Runs.perches(2), "folk(3, 1)=0 of(-1, 0)=-1 of(0, 0)=3 of(1, 0)=-1 of(MIN, 0)=-1 of(MAX, 1)=-1");
        Runs.run(5, "folk 3 is the last, 4 none", Runs.perches(1), "folk(2, 0)=0 folk(3, 0)=1 folk(4, 0)=2 folk(5, 0)=3 of(3, 0)=5 of(4, 0)=-1");
        Runs.run(5, "what 0 legs, 1 the perch, others none", Runs.perches(2),
            "folk(7, 1)=0 of(0, -1)=-1 of(0, 0)=7 of(0, 1)=1 of(0, 2)=-1 of(0, MIN)=-1 of(0, MAX)=-1");
    }

    private static void promise6() {
        Runs.run(6, "rooms 0 .. 5", "badger(-1)!-1 badger(0)=0 badger(5)=1 badger(6)!-1 badger(MIN)!-1 badger(MAX)!-1 count(2)=2",
            "sow(0, 0)=0 sow(1, 0)=5 sow(2, 0)=-1");
        Runs.run(6, "3 at most: -5, -1 ahead of it", "badger(1)=0 badger(1)=1 badger(1)=2 badger(1)!-5 badger(0)!-5 badger(6)!-1 badger(-1)!-1",
            "count(2)=3 room(1, 2)=3");
        Runs.run(6, "what could be undone is not any more; a refused one leaves it",
            "door(0, 1)=1 badger(6)!-1 count(7)=1 badger(0)=0 count(7)=0 undo()!-3",
            "badger(0)=1 badger(0)=2 door(0, 1)=0 badger(0)!-5 count(7)=1");
    }

    private static void promise7() {
        Runs.run(7, "none such", "sow(0, 0)=-1 sow(0, 1)=-1 badger(4)=0 sow(-1, 0)=-1 sow(-1, 1)=-1 sow(0, 0)=4 sow(1, 0)=-1 sow(MIN, 0)=-1",
            "badger(4)=1 badger(3)=2 sow(2, 0)=3 sow(3, 0)=-1 sow(MAX, 1)=-1");
        Runs.run(7, "what 0 the room, 1 whither, others none", "badger(4)=0 door(4, 5)=1 sow(0, -1)=-1 sow(0, 0)=4 sow(0, 1)=5 sow(0, 2)=-1",
            "sow(0, MIN)=-1 sow(0, MAX)=-1");
        Runs.run(7, "goes to the next number, if the door between is open, else it stays",
            "badger(0)=0 badger(4)=1 sow(0, 1)=0 door(0, 1)=1 sow(0, 1)=1 door(0, 1)=0 sow(0, 1)=0 door(4, 3)=1 sow(1, 1)=4 door(5, 4)=1 sow(1,",
            "1)=5");
        Runs.run(7, "0 behind 5", "badger(5)=0 sow(0, 1)=5 door(5, 4)=1 sow(0, 1)=5 door(5, 0)=1 sow(0, 1)=0");
        Runs.run(7, "goes to the room told, 0 .. 5, if the door between is open", "badger(3)=0 door(3, 0)=1 door(3, 5)=1 door(3, 4)=1",
            "law'goes 0'=0 law'goes 5'=1 law'goes 2'=2 force(0)=-1 sow(0, 1)=0 force(1)=0 sow(0, 1)=5 force(2)=1 sow(0, 1)=3");
        Runs.run(7, "it stays where no room is told: 6, -1, and more", "badger(0)=0 door(0, 1)=1 door(0, 5)=1 law'goes 6'=0 law'goes 0-1'=1",
            "law'goes 1000*1000*1000'=2 force(0)=-1 sow(0, 1)=0 force(1)=0 sow(0, 1)=0 force(2)=1 sow(0, 1)=0");
        Runs.run(7, "it stays where it is told to be", "badger(2)=0 door(2, 3)=1 law'goes room'=0 law'goes 2'=1 force(0)=-1 sow(0, 1)=2 force(1)=0",
            "sow(0, 1)=2");
        Runs.run(7, "without one that holds to the next number", "badger(2)=0 door(2, 3)=1 law'goes 1 if 1=0; goes 1/0; goes 1 if 1/0=1; theirs 1;",
            "bars'=0",
            "force(0)=-1 sow(0, 1)=3");
        Runs.run(7, "the last that holds", "badger(0)=0 door(0, 1)=1 door(0, 2)=1 law'goes 1; goes 2'=0 law'goes 1; goes 2 if 1=0'=1 law'goes 1;",
            "goes 2/0'=2",
            "force(0)=-1 sow(0, 1)=2 force(1)=0 sow(0, 1)=1 force(2)=1 sow(0, 1)=1");
        Runs.run(7, "as hour is now", "badger(0)=0 door(0, 1)=1 law'goes room; goes 1 if hour=5'=0 force(0)=-1 terms(0, 4)=0 sow(0, 1)=0 terms(0,",
            "5)=4 sow(0, 1)=1",
            "terms(0, 29)=5 sow(0, 1)=0");
    }

    private static void promise8() {
        Runs.run(8, "worth to folk 0 .. 9", Runs.perches(1), "thing(0, -1, 0)!-1 thing(0, 0, 0)=0 thing(0, 9, 0)=1 thing(0, 10, 0)!-1",
            "thing(0, MIN, 0)!-1 thing(0, MAX, 0)!-1 count(3)=2 has(0, 1)=0 has(1, 1)=9");
        Runs.run(8, "worth to badgers 0 .. 9", Runs.perches(1), "thing(0, 0, -1)!-1 thing(0, 0, 0)=0 thing(0, 0, 9)=1 thing(0, 0, 10)!-1",
            "thing(0, 0, MIN)!-1 thing(0, 0, MAX)!-1 count(3)=2 has(0, 2)=0 has(1, 2)=9");
        Runs.run(8, "the perch: -2", "thing(0, 0, 0)!-2", Runs.perches(2), "thing(-1, 0, 0)!-2 thing(0, 0, 0)=0 thing(1, 0, 0)=1 thing(2, 0, 0)!-2",
            "thing(MIN, 0, 0)!-2 thing(MAX, 0, 0)!-2 count(3)=2 has(1, 0)=1");
        Runs.run(8, "6 at most: -5", Runs.perches(1), "thing(0, 1, 1)=0 thing(0, 1, 1)=1 thing(0, 1, 1)=2 thing(0, 1, 1)=3 thing(0, 1, 1)=4",
            "thing(0, 1, 1)=5 thing(0, 1, 1)!-5 count(3)=6");
        Runs.run(8, "-1 ahead of -2 ahead of -5", Runs.perches(1), "thing(1, 10, 0)!-1 thing(-1, 0, -1)!-1",
            "thing(0, 1, 1)=0 thing(0, 1, 1)=1 thing(0, 1, 1)=2 thing(0, 1, 1)=3 thing(0, 1, 1)=4 thing(0, 1, 1)=5",
            "thing(0, 10, 1)!-1 thing(1, 1, -1)!-1 thing(1, 1, 1)!-2 thing(-1, 1, 1)!-2 count(3)=6");
        Runs.run(8, "what could be undone is not any more; a refused one leaves it", Runs.perches(1),
            "door(0, 1)=1 thing(0, 10, 0)!-1 thing(1, 0, 0)!-2 count(7)=1 thing(0, 0, 0)=0 count(7)=0 undo()!-3",
            "thing(0, 0, 0)=1 thing(0, 0, 0)=2 thing(0, 0, 0)=3 thing(0, 0, 0)=4 thing(0, 0, 0)=5 door(0, 1)=0 thing(0, 0, 0)!-5 count(7)=1");
    }

    private static void promise9() {
        Runs.run(9, "none such", "has(0, 0)=-1", Runs.perches(2), "thing(1, 2, 3)=0 has(-1, 0)=-1 has(0, 0)=1 has(1, 0)=-1 has(1, 1)=-1 has(1, 2)=-1",
            "has(MIN, 0)=-1 has(MAX, 0)=-1");
        Runs.run(9, "thing 5 is the last, 6 none", Runs.perches(1), "thing(0, 0, 0)=0 thing(0, 0, 0)=1 thing(0, 0, 0)=2 thing(0, 0, 0)=3 thing(0, 0,",
            "0)=4",
            "thing(0, 4, 5)=5 has(5, 1)=4 has(5, 2)=5 has(6, 0)=-1");
        Runs.run(9, "what 0 the perch, 1 worth to folk, 2 to badgers, others none", Runs.perches(2),
            "thing(1, 2, 3)=0 has(0, -1)=-1 has(0, 0)=1 has(0, 1)=2 has(0, 2)=3 has(0, 3)=-1 has(0, MIN)=-1 has(0, MAX)=-1");
    }

    private static void promise10() {
        Runs.run(10, "long 0 .. 9, what they were", Runs.perches(2), "link(0, 1, -1)!-1 link(0, 1, MIN)!-1 link(0, 1, 0)=0 link(0, 1, 1)=0 link(0,",
            "1, 9)=1",
            "link(0, 1, 10)!-1 link(0, 1, MAX)!-1 at(0, 4)=9 link(1, 0, 4)=9 at(0, 4)=4 at(1, 3)=4 link(0, 1, 0)=4 link(1, 0, 0)=0 at(0, 4)=0");
        Runs.run(10, "-1: one alone, too, there or not", Runs.perches(2), "link(0, 0, 1)!-1 link(1, 1, 0)!-1 link(2, 2, 1)!-1 link(-1, -1, 1)!-1",
            "at(0, 3)=0 at(1, 4)=0");
        Runs.run(10, "-2: no such perch, the one or the other", Runs.perches(2), "link(-1, 0, 1)!-2 link(0, -1, 1)!-2 link(2, 0, 1)!-2 link(0, 2,",
            "1)!-2",
            "link(0, MAX, 1)!-2 link(MIN, 0, 1)!-2 link(2, 3, 1)!-2 link(1, 0, 1)=0");
        Runs.run(10, "perch 9 is the last", Runs.perches(10), "link(9, 8, 3)=0 link(8, 9, 5)=3 link(9, 10, 1)!-2 link(10, 9, 1)!-2");
        Runs.run(10, "-1 ahead of -2", Runs.perches(1), "link(0, 1, 10)!-1 link(1, 0, -1)!-1 link(0, 1, 9)!-2");
        Runs.run(10, "it leaves what can be undone", Runs.perches(2), "folk(3, 0)=0 link(0, 1, 3)=0 stride(0, 1)=0 link(0, 1, 0)=3 link(0, 1, 11)!-1",
            "link(0, 2, 1)!-2",
            "count(7)=1 undo()=0 of(0, 1)=0 at(0, 4)=0");
        Runs.run(10, "strides go by, whatever rooms the perches are in", "perch(0, 0)=0 perch(5, 9)=1 link(0, 1, 2)=0 at(1, 3)=2");
    }

    private static void promise11() {
        Runs.run(11, "rooms 0 .. 5, none for others", "room(-1, 0)=-1 room(-1, 1)=-1 room(-1, 2)=-1 room(0, 0)=2 room(5, 0)=2 room(6, 0)=-1 room(6,",
            "1)=-1",
            "room(6, 2)=-1 room(MIN, 0)=-1 room(MAX, 0)=-1");
        Runs.run(11, "what 0 .. 2, none for others", "room(0, -1)=-1 room(0, 0)=2 room(0, 1)=0 room(0, 2)=0 room(0, 3)=-1 room(0, MIN)=-1 room(0,",
            "MAX)=-1");
        Runs.run(11, "without a theirs 2 high from clock 18 to clock 5, else 0",
            "terms(0, 4)=0 room(0, 0)=2 terms(0, 5)=4 room(0, 0)=2 terms(0, 6)=5 room(0, 0)=0 terms(0, 12)=6 room(0, 0)=0 terms(0, 17)=12 room(0,",
            "0)=0",
            "terms(0, 18)=17 room(0, 0)=2 terms(0, 23)=18 room(0, 0)=2 terms(0, 24)=23 room(0, 0)=2 terms(0, 29)=24 room(0, 0)=2",
            "terms(0, 30)=29 room(0, 0)=0 terms(0, 41)=30 room(0, 0)=0 terms(0, 42)=41 room(0, 0)=2",
            "terms(0, 989)=42 room(0, 0)=2 terms(0, 990)=989 room(0, 0)=0 terms(0, 999)=990 room(0, 0)=0 room(5, 0)=0");
        String[][] told = {{"0-1000*1000*1000", "0"}, {"0-1", "0"}, {"0", "0"}, {"1", "1"}, {"9", "9"}, {"10", "10"}, {"11", "10"},
            {"1000*1000*1000", "10"}, {"1000*1000*1000+1", "2"}, {"0-1000*1000*1000-1", "2"}, {"1/0", "2"}};
        for (String[] t : told) {
            Runs.run(11, "theirs 0 .. 10 high, else the nearest; broken: it does not hold",
                "law'theirs " + t[0] + "'=0 force(0)=-1 room(0, 0)=" + t[1] + " room(5, 0)=" + t[1]);
        }
        Runs.run(11, "the last theirs that holds", "law'theirs 3; theirs 4; theirs 5 if 1=0; theirs 6 if 1/0=1; theirs 7/0; goes 8; bars'=0",
            "force(0)=-1 room(0, 0)=4");
        Runs.run(11, "theirs is asked of the room as hour is now", "law'theirs room+1; theirs 9 if hour=7 and room=2'=0 force(0)=-1 room(0, 0)=1",
            "room(5, 0)=6 room(2, 0)=3",
            "terms(0, 7)=0 room(2, 0)=9 room(1, 0)=2 terms(0, 8)=7 room(2, 0)=3");
        Runs.run(11, "which doors are open, as bits", "door(0, 1)=1 door(5, 0)=1 room(0, 1)=34 room(1, 1)=1 room(5, 1)=1 room(2, 1)=0",
            "door(0, 2)=1 door(0, 3)=1 door(0, 4)=1 room(0, 1)=62 door(1, 0)=0 room(0, 1)=60 room(1, 1)=0");
        Runs.run(11, "how many badgers are in it", "badger(5)=0 room(5, 2)=1 badger(5)=1 badger(5)=2 room(5, 2)=3 room(4, 2)=0 room(0, 2)=0");
        for (int one = 0; one < 6; one++) {
            for (int other = one + 1; other < 6; other++) {
                Runs.run(11, "a door between any two rooms, not open at first",
                    "room(" + one + ", 1)=0 door(" + one + ", " + other + ")=1 room(" + one + ", 1)=" + (1 << other)
                    + " room(" + other + ", 1)=" + (1 << one) + " door(" + other + ", " + one + ")=0 room(" + one + ", 1)=0");
            }
        }
    }

    private static void promise12() {
        Runs.run(12, "none such", "can(0, 0)=-1", LADDER, "can(-1, 1)=-1 can(0, -1)=-1 can(0, 1)=1 can(1, 1)=-1 can(0, 2)=-1 can(1, 2)=-1",
            "can(MIN, 0)=-1 can(MAX, 0)=-1 can(0, MIN)=-1 can(0, MAX)=-1");
        Runs.run(12, "strides no longer than its legs", Runs.perches(3), "folk(4, 0)=0 link(0, 1, 4)=0 link(0, 2, 5)=0 can(0, 1)=1 can(0, 2)=0",
            "link(0, 1, 1)=4 link(0, 2, 9)=5 can(0, 1)=1 can(0, 2)=0 folk(9, 2)=1 can(1, 0)=1");
        Runs.run(12, "there are strides, another perch", LADDER, "perch(0, 0)=2 can(0, 0)=0 can(0, 2)=0 link(0, 1, 0)=1 can(0, 1)=0");
        Runs.run(12, "the door between their rooms is open", "perch(1, 0)=0 perch(2, 0)=1 folk(1, 0)=0 link(0, 1, 1)=0 door(1, 3)=1 door(2, 3)=1",
            "can(0, 1)=0",
            "door(2, 1)=1 can(0, 1)=1 door(1, 2)=0 can(0, 1)=0");
        Runs.run(12, "of one room: always", "perch(4, 0)=0 perch(4, 9)=1 folk(1, 0)=0 link(0, 1, 1)=0 can(0, 1)=1");
        Runs.run(12, "not barred, as bars holds", LADDER, "law'bars'=0 law'bars if 1=0; bars if 1/0=1'=1 law'bars; theirs 1; bars if 1=0'=2",
            "law'theirs 1; goes 1'=3",
            "can(0, 1)=1 force(0)=-1 can(0, 1)=0 force(1)=0 can(0, 1)=1 force(2)=1 can(0, 1)=0 force(3)=2 can(0, 1)=1");
        Runs.run(12, "barred is asked of the perch to which it would come, and its room", "perch(1, 3)=0 perch(2, 4)=1 folk(5, 0)=0 folk(6, 0)=1",
            "link(0, 1, 1)=0 door(1, 2)=1",
            "law'bars if perch=1 and high=4 and room=2 and folk=1 and legs=6 and badger=0-1'=0 force(0)=-1 can(1, 1)=0 can(0, 1)=1 law'bars if",
            "perch=0 or high=3 or room=1'=1",
            "force(1)=0 can(1, 1)=1");
        Runs.run(12, "now: as hour is", LADDER, "law'bars if hour=24 and clock=0'=0 force(0)=-1 can(0, 1)=1 terms(0, 24)=0 can(0, 1)=0 terms(0,",
            "48)=24 can(0, 1)=1");
        Runs.run(12, "safe or not, badgers or not", LADDER, "badger(0)=0 at(1, 2)=0 can(0, 1)=1");
    }

    private static void promise13() {
        Runs.run(13, "hour 0 .. 999, 0 at first", "terms(0, -1)!-1 terms(0, 0)=0 terms(0, 999)=0 terms(0, 1000)!-1 terms(0, MIN)!-1 terms(0, MAX)!-1",
            "count(15)=999",
            "terms(0, 998)=999 count(15)=998");
        Runs.run(13, "snores 0 .. 10, 1 at first", "terms(1, -1)!-1 terms(1, 0)=1 terms(1, 10)=0 terms(1, 11)!-1 terms(1, MIN)!-1 terms(1, MAX)!-1",
            "count(16)=10");
        Runs.run(13, "mood 0 .. 9, 0 at first", "terms(2, -1)!-1 terms(2, 0)=0 terms(2, 9)=0 terms(2, 10)!-1 terms(2, MIN)!-1 terms(2, MAX)!-1",
            "count(17)=9");
        Runs.run(13, "terms 0, 1, 2", "terms(-1, 0)!-1 terms(3, 0)!-1 terms(MIN, 0)!-1 terms(MAX, 0)!-1 terms(2, 1)=0 count(15)=0 count(16)=1",
            "count(17)=1");
        Runs.run(13, "what could be undone is not any more, by the same value, too; a refused one leaves it",
            "door(0, 1)=1 terms(0, 1000)!-1 terms(3, 0)!-1 terms(-1, 0)!-1 count(7)=1 terms(2, 0)=0 count(7)=0 undo()!-3",
            "door(0, 1)=0 terms(0, 1)=0 count(7)=0 door(0, 1)=1 terms(1, 1)=1 undo()!-3");
        Runs.run(13, "mood is told in laws", "law'theirs mood'=0 force(0)=-1 room(0, 0)=0 terms(2, 9)=0 room(0, 0)=9");
    }

    public static void main(String[] args) {
        promise1();
        promise2();
        promise3();
        promise4();
        promise5();
        promise6();
        promise7();
        promise8();
        promise9();
        promise10();
        promise11();
        promise12();
        promise13();
        Due.end("EdgesHouseTest");
    }
}
