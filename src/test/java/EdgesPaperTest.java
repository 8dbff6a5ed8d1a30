/** Promises 28 to 44, sentence by sentence: what is reckoned on paper, with its last number and the first beyond. */
public final class EdgesPaperTest {
    private static final String SIX_THINGS = "thing(0, 9, 9)=0 thing(0, 9, 9)=1 thing(0, 9, 9)=2 thing(0, 9, 9)=3 thing(0, 9, 9)=4 thing(0, 9, 9)=5 ";

    private static void promise28() {
        Runs.run(28, "no such folk, perch", Runs.ladder(9, 9), "soonest(-1, 0, -1)=-1 soonest(1, 0, -1)=-1 soonest(0, -1, -1)=-1 soonest(0, 2,",
            "-1)=-1 soonest(MAX, 0, -1)=-1 soonest(0, MIN, -1)=-1",
            "soonest(0, 1, -1)=1 soonest(1, 1, 0)=-1");
        Runs.run(28, "there: 0 hours, no perch behind any", Runs.ladder(0, 0), "soonest(0, 0, -1)=0 soonest(0, 0, 0)=-1 soonest(0, 0, 1)=-1",
            "soonest(0, 0, -2)=-1");
        Runs.run(28, "the perch behind hour i, 0 the first; none: not so many", Runs.ladder(9, 9, 9, 9),
            "soonest(0, 3, -1)=3 soonest(0, 3, -2)=-1 soonest(0, 3, MIN)=-1 soonest(0, 3, 0)=1 soonest(0, 3, 1)=2",
            "soonest(0, 3, 2)=3 soonest(0, 3, 3)=-1 soonest(0, 3, 48)=-1 soonest(0, 3, MAX)=-1");
        Runs.run(28, "in 48 hours", Runs.ladder(9, 9), "law'bars if perch=1 and hour<47'=0 force(0)=-1 soonest(0, 1, -1)=48 soonest(0, 1, 0)=0",
            "soonest(0, 1, 46)=0 soonest(0, 1, 47)=1 soonest(0, 1, 48)=-1");
        Runs.run(28, "not in 48", Runs.ladder(9, 9), "law'bars if perch=1 and hour<48'=0 force(0)=-1 soonest(0, 1, -1)=-1 soonest(0, 1, 0)=-1",
            "soonest(0, 1, 47)=-1");
        Runs.run(28, "safe at the beginning of the last hour, too", Runs.ladder(9, 0), "soonest(0, 1, -1)=6 terms(0, 4)=0 soonest(0, 1, -1)=2",
            "soonest(0, 1, 0)=0 soonest(0, 1, 1)=1 terms(0, 5)=4 soonest(0, 1, -1)=1",
            "terms(0, 16)=5 soonest(0, 1, -1)=1 terms(0, 17)=16 soonest(0, 1, -1)=13");
        Runs.run(28, "safe at the beginning of each hour on the way", Runs.ladder(9, 0, 9), "soonest(0, 2, -1)=7 soonest(0, 2, 4)=0 soonest(0, 2,",
            "5)=1 soonest(0, 2, 6)=2 terms(0, 16)=0 soonest(0, 2, -1)=2 terms(0, 17)=16 soonest(0, 2, -1)=14");
        Runs.run(28, "safe where it is now or not; staying there is asked, too", Runs.ladder(0, 9), "soonest(0, 1, -1)=1 law'bars if hour=0 or",
            "hour=5'=0 force(0)=-1 soonest(0, 1, -1)=-1 terms(0, 4)=0 soonest(0, 1, -1)=1",
            "terms(0, 5)=4 soonest(0, 1, -1)=2 soonest(0, 1, 0)=0");
        Runs.run(28, "barred as hour is then", Runs.ladder(9, 9, 9), "law'bars if perch=2 and hour=1'=0 force(0)=-1 soonest(0, 2, -1)=3 soonest(0,",
            "1, -1)=1 terms(0, 1)=0 soonest(0, 2, -1)=2");
        Runs.run(28, "badgers aside", Runs.ladder(2, 2), "badger(0)=0 badger(0)=1 soonest(0, 1, -1)=1");
        Runs.run(28, "strides, legs, doors as now", "perch(0, 9)=0 perch(1, 9)=1 folk(4, 0)=0 link(0, 1, 5)=0 door(0, 1)=1 soonest(0, 1, -1)=-1",
            "link(0, 1, 4)=5 soonest(0, 1, -1)=1 door(0, 1)=0 soonest(0, 1, -1)=-1");
        Runs.run(28, "the first such row: the lower perch ahead", "perch(0, 9)=0 perch(0, 9)=1 perch(0, 9)=2 perch(0, 9)=3 folk(1, 3)=0 link(3, 2,",
            "1)=0 link(3, 1, 1)=0 link(2, 0, 1)=0 link(1, 0, 1)=0",
            "soonest(0, 0, -1)=2 soonest(0, 0, 0)=1 soonest(0, 0, 1)=0 law'bars if perch=1'=0 force(0)=-1 soonest(0, 0, 0)=2 soonest(0, 0, 1)=0");
        Runs.run(28, "the first such row: to a lower perch and back ahead of staying", "perch(0, 9)=0 perch(0, 9)=1 perch(0, 9)=2 folk(1, 2)=0",
            "link(2, 0, 1)=0 link(2, 1, 1)=0 law'bars if perch=0 and hour<2'=0 force(0)=-1",
            "soonest(0, 0, -1)=3 soonest(0, 0, 0)=1 soonest(0, 0, 1)=2 soonest(0, 0, 2)=0");
        Runs.run(28, "the first such row: each perch by a stride from the one ahead of it", "perch(0, 9)=0 perch(0, 9)=1 perch(0, 9)=2 perch(0, 9)=3",
            "perch(0, 9)=4 perch(0, 9)=5 folk(1, 5)=0",
            "row'5 1 1 5 2 1 1 3 1 2 0 1 3 4 1 0 4 1'=6 soonest(0, 4, -1)=3 soonest(0, 4, 0)=1 soonest(0, 4, 1)=3 soonest(0, 4, 2)=4");
        Runs.run(28, "safe in the room of each perch", "perch(0, 5)=0 perch(1, 5)=1 perch(2, 5)=2 folk(1, 0)=0 link(0, 1, 1)=0 link(1, 2, 1)=0",
            "door(0, 1)=1 door(1, 2)=1 law'theirs 6 if room=1'=0 law'theirs 6 if room=2 and hour<9'=1",
            "soonest(0, 2, -1)=2 force(0)=-1 soonest(0, 1, -1)=-1 soonest(0, 2, -1)=-1 force(1)=0 soonest(0, 1, -1)=1 soonest(0, 2, -1)=9");
        Runs.run(28, "staying ahead of a higher perch and back", "perch(0, 9)=0 perch(0, 9)=1 perch(0, 9)=2 folk(1, 1)=0 link(1, 0, 1)=0 link(2, 1,",
            "1)=0 law'bars if perch=0 and hour<2'=0 force(0)=-1",
            "soonest(0, 0, -1)=3 soonest(0, 0, 0)=1 soonest(0, 0, 1)=1 soonest(0, 0, 2)=0");
        Runs.run(28, "hours go on beyond 999", Runs.ladder(9, 9), "terms(0, 999)=0 law'bars if perch=1 and hour<1000'=0 force(0)=-1 soonest(0, 1,",
            "-1)=2 law'bars if perch=1 and hour<1000+46'=1 force(1)=0 soonest(0, 1, -1)=48");
        Runs.run(28, "clock goes on beyond 999", Runs.ladder(9, 0), "terms(0, 999)=0 soonest(0, 1, -1)=1 law'bars if perch=1 and hour<1000+1'=0",
            "force(0)=-1 soonest(0, 1, -1)=15");
        Runs.run(28, "on paper", Runs.ladder(9, 9), "soonest(0, 1, -1)=1 of(0, 1)=0 count(15)=0 count(7)=0");
        Runs.run(28, "over ten perches", Runs.ladder(9, 9, 9, 9, 9, 9, 9, 9, 9, 9), "soonest(0, 9, -1)=9 soonest(0, 9, 8)=9 soonest(0, 9, 9)=-1",
            "soonest(0, 10, -1)=-1");
    }

    private static void promise29() {
        Runs.run(29, "n 0 .. 10", Runs.ladder(0, 0), "near(0, -1)=-1 near(0, 0)=1 near(0, 10)=3 near(0, 11)=-1 near(0, MIN)=-1 near(0, MAX)=-1");
        Runs.run(29, "no such folk", "near(0, 0)=-1", Runs.ladder(0, 0), "near(-1, 0)=-1 near(1, 0)=-1 near(4, 0)=-1 near(MIN, 0)=-1 near(MAX,",
            "0)=-1");
        Runs.run(29, "n strides at most, one behind the other", Runs.ladder(0, 0, 0, 0, 0, 0, 0, 0, 0, 0),
            "near(0, 0)=1 near(0, 1)=3 near(0, 2)=7 near(0, 3)=15 near(0, 8)=511 near(0, 9)=1023 near(0, 10)=1023");
        Runs.run(29, "its own, too, barred from it or not; safe or not", Runs.ladder(0, 9), "law'bars'=0 force(0)=-1 near(0, 10)=1 at(0, 2)=0",
            "law'bars if perch=0'=1 force(1)=0 near(0, 10)=3");
        Runs.run(29, "barred as hour is now", Runs.ladder(0, 0, 0), "law'bars if perch=1 and hour=1; bars if perch=2 and hour=0'=0 force(0)=-1",
            "near(0, 2)=3 terms(0, 1)=0 near(0, 2)=1 terms(0, 2)=1 near(0, 2)=7");
        Runs.run(29, "strides no longer than its legs, through open doors", "perch(0, 0)=0 perch(1, 0)=1 perch(1, 0)=2 folk(4, 0)=0 link(0, 1, 4)=0",
            "link(1, 2, 5)=0 near(0, 10)=1 door(0, 1)=1 near(0, 10)=3 link(1, 2, 4)=5 near(0, 10)=7 near(0, 1)=3");
        Runs.run(29, "from where folk is", Runs.ladder(0, 0, 0, 0), "near(0, 1)=3 stride(0, 1)=0 near(0, 1)=7 near(0, 0)=2");
    }

    private static void promise30() {
        String four = Runs.ladder(0, 0, 0, 0);
        Runs.run(30, "none: it is there, by one stride", four, "cut(0, 0, 0)=-1 cut(0, 0, 1)=-1 cut(0, 1, 0)=-1 cut(0, 1, 1)=-1 cut(0, 2, 0)=1",
            "cut(0, 2, 1)=2");
        Runs.run(30, "none: no such folk, perch", four, "cut(-1, 2, 0)=-1 cut(1, 2, 0)=-1 cut(0, -1, 0)=-1 cut(0, 4, 0)=-1 cut(MIN, 2, 0)=-1 cut(0,",
            "MAX, 1)=-1 cut(0, 3, 0)=1");
        Runs.run(30, "what 0 how many, 1 which", four, "cut(0, 3, -1)=-1 cut(0, 3, 0)=1 cut(0, 3, 1)=2 cut(0, 3, 2)=-1 cut(0, 3, MIN)=-1 cut(0, 3,",
            "MAX)=-1");
        Runs.run(30, "it is not near: 0", Runs.ladder(0, 0), "perch(0, 0)=2 cut(0, 2, 0)=0 cut(0, 2, 1)=0");
        Runs.run(30, "it is not near, for it is barred now: 0", four, "law'bars if perch=3 and hour=0'=0 force(0)=-1 cut(0, 3, 0)=0 cut(0, 3, 1)=0",
            "terms(0, 1)=0 cut(0, 3, 0)=1");
        Runs.run(30, "barred on the way as hour is now", Runs.ladder(0, 0, 0), "perch(0, 0)=3 link(0, 3, 1)=0 link(3, 2, 1)=0 cut(0, 2, 0)=2 cut(0,",
            "2, 1)=10 law'bars if perch=3 and hour=0'=0 force(0)=-1 cut(0, 2, 0)=1 cut(0, 2, 1)=2");
        Runs.run(30, "by one stride it could not come, but by others", Runs.ladder(0, 0, 0), "link(0, 2, 2)=0 cut(0, 2, 0)=1 cut(0, 2, 1)=2 link(0,",
            "2, 1)=2 cut(0, 2, 0)=-1");
        Runs.run(30, "by one stride it could not come, for the door is shut", "perch(0, 0)=0 perch(1, 0)=1 perch(0, 0)=2 folk(1, 0)=0 link(0, 1,",
            "1)=0 cut(0, 1, 0)=0 door(0, 1)=1 cut(0, 1, 0)=-1");
        Runs.run(30, "the lowest as bits of as few", four, "cut(0, 3, 1)=2 link(0, 2, 1)=0 cut(0, 3, 1)=4");
        Runs.run(30, "the lowest as bits: 2 and 3 are lower than 1 and 4", Runs.perches(6), "folk(1, 0)=0 row'0 1 1 0 4 1 1 2 1 1 3 1 4 2 1 4 3 1 2",
            "5 1 3 5 1'=8 cut(0, 5, 0)=2 cut(0, 5, 1)=12");
        Runs.run(30, "eight others, all of them", Runs.perches(10), "folk(1, 0)=0 row'0 1 1 0 2 1 0 3 1 0 4 1 0 5 1 0 6 1 0 7 1 0 8 1 9 1 1 9 2 1 9",
            "3 1 9 4 1 9 5 1 9 6 1 9 7 1 9 8 1'=16 cut(0, 9, 0)=8 cut(0, 9, 1)=510 link(9, 4, 0)=1 cut(0, 9, 0)=7 cut(0, 9, 1)=494");
        Runs.run(30, "within any number: nine strides", Runs.ladder(0, 0, 0, 0, 0, 0, 0, 0, 0, 0), "cut(0, 9, 0)=1 cut(0, 9, 1)=2");
        Runs.run(30, "other perches than its own, which is no lower one", Runs.perches(4), "folk(1, 3)=0 row'3 2 1 2 1 1 1 0 1'=3 cut(0, 0, 0)=1",
            "cut(0, 0, 1)=2");
    }

    private static void promise31() {
        Runs.run(31, "none: no such folk", "roost(0)=-1", Runs.ladder(9), "roost(-1)=-1 roost(0)=0 roost(1)=-1 roost(MIN)=-1 roost(MAX)=-1");
        Runs.run(31, "none: there is none", Runs.ladder(1, 0, 1), "perch(0, 9)=3 roost(0)=-1 link(3, 0, 1)=0 roost(0)=3");
        Runs.run(31, "its own, by no strides", Runs.ladder(2, 9), "roost(0)=0 law'theirs 3'=0 force(0)=-1 roost(0)=1");
        Runs.run(31, "its own, by no strides, ahead of a lower one", "perch(0, 9)=0 perch(0, 9)=1 perch(0, 9)=2 link(0, 1, 1)=0 link(1, 2, 1)=0",
            "folk(1, 1)=0 folk(1, 2)=1 roost(0)=1 roost(1)=2 law'theirs 10 if hour=1'=0",
            "force(0)=-1 roost(0)=-1");
        Runs.run(31, "safe in the room of each perch", "perch(0, 5)=0 perch(1, 5)=1 folk(1, 0)=0 link(0, 1, 1)=0 door(0, 1)=1 law'theirs 6 if",
            "room=0'=0 law'theirs 6 if room=1'=1 law'theirs 6'=2 force(0)=-1 roost(0)=1 force(1)=0 roost(0)=0 force(2)=1 roost(0)=-1");
        Runs.run(31, "its own, barred from it or not", Runs.ladder(2, 9), "law'bars'=0 force(0)=-1 roost(0)=0");
        Runs.run(31, "safe now", Runs.ladder(1, 1), "law'theirs 1; theirs 2 if hour=0'=0 force(0)=-1 roost(0)=-1 terms(0, 1)=0 roost(0)=0");
        Runs.run(31, "safe in the 23rd hour behind that", Runs.ladder(1, 9), "law'theirs 1; theirs 2 if hour=23'=0 force(0)=-1 roost(0)=1");
        Runs.run(31, "not asked in the 24th", Runs.ladder(1, 9), "law'theirs 1; theirs 2 if hour=24'=0 force(0)=-1 roost(0)=0 terms(0, 1)=0",
            "roost(0)=1");
        Runs.run(31, "safe in an hour between", Runs.ladder(1, 9), "law'theirs 1; theirs 2 if hour=11'=0 force(0)=-1 roost(0)=1 terms(0, 12)=0",
            "roost(0)=0");
        Runs.run(31, "fewest strides ahead of the lowest", Runs.ladder(0, 0, 5, 5), "link(0, 3, 1)=0 roost(0)=3");
        Runs.run(31, "the lowest of as few", Runs.ladder(0, 0, 5, 5), "link(0, 3, 1)=0 link(0, 2, 1)=0 roost(0)=2");
        Runs.run(31, "near: not barred now; nine strides", Runs.ladder(0, 0, 0, 0, 0, 0, 0, 0, 0, 9),
            "roost(0)=9 law'bars if perch=5 and hour=0'=0 force(0)=-1 roost(0)=-1 terms(0, 1)=0 roost(0)=9");
        Runs.run(31, "hours go on beyond 999", Runs.ladder(1, 9), "terms(0, 999)=0 law'theirs 1; theirs 2 if hour=1000+22'=0 force(0)=-1 roost(0)=1",
            "law'theirs 1; theirs 2 if hour=1000+23'=1 force(1)=0 roost(0)=0");
    }

    private static void promise32and33() {
        Runs.run(32, "n 0 .. 60", "badger(2)=0 where(0, -1)=-1 where(0, 0)=2 where(0, 60)=2 where(0, 61)=-1 where(0, MIN)=-1 where(0, MAX)=-1");
        Runs.run(32, "no such badger", "where(0, 0)=-1 badger(1)=0 badger(2)=1 where(-1, 0)=-1 where(1, 0)=2 where(2, 0)=-1 badger(3)=2 where(2,",
            "0)=3 where(3, 0)=-1 where(MIN, 0)=-1");
        Runs.run(32, "n hours on", "badger(3)=0 door(3, 4)=1 door(4, 5)=1 door(5, 0)=1 where(0, 0)=3 where(0, 1)=4 where(0, 2)=5 where(0, 3)=0",
            "where(0, 4)=0 where(0, 60)=0 sow(0, 0)=3");
        Runs.run(32, "as hour and room are then", "badger(0)=0 door(0, 1)=1 law'goes room; goes 1 if hour=59 and room=0'=0 force(0)=-1 where(0,",
            "59)=0 where(0, 60)=1 terms(0, 1)=0 where(0, 58)=0 where(0, 59)=1 terms(0, 60)=1 where(0, 60)=0");
        Runs.run(32, "hours go on beyond 999", "badger(0)=0 door(0, 1)=1 terms(0, 999)=0 law'goes room; goes 1 if hour=1000'=0 force(0)=-1 where(0,",
            "1)=0 where(0, 2)=1");
        Runs.run(33, "no such ones", "meeting(0, 0)=-1", Runs.ladder(0), "meeting(0, 0)=-1 badger(0)=0 meeting(0, 0)=0 meeting(-1, 0)=-1 meeting(1,",
            "0)=-1 meeting(0, -1)=-1 meeting(0, 1)=-1 meeting(MIN, 0)=-1 meeting(0, MAX)=-1");
        Runs.run(33, "the least n: now is 0", Runs.ladder(0), "badger(0)=0 badger(5)=1 door(0, 1)=1 door(5, 0)=1 meeting(0, 0)=0 meeting(0, 1)=1");
        Runs.run(33, "in 60", "perch(1, 0)=0 folk(1, 0)=0 badger(0)=0 door(0, 1)=1 law'goes room; goes 1 if hour=59'=0 force(0)=-1 meeting(0, 0)=60");
        Runs.run(33, "not in 60", "perch(1, 0)=0 folk(1, 0)=0 badger(0)=0 door(0, 1)=1 law'goes room; goes 1 if hour=60'=0 force(0)=-1 meeting(0,",
            "0)=-1 terms(0, 1)=0 meeting(0, 0)=60");
        Runs.run(33, "the room of the perch on which folk are now", "perch(0, 0)=0 perch(1, 0)=1 folk(1, 0)=0 folk(1, 1)=1 link(0, 1, 1)=0 door(0,",
            "1)=1 badger(0)=0 meeting(0, 0)=0 meeting(1, 0)=1 stride(0, 1)=0 meeting(0, 0)=1");
        Runs.run(33, "safe or not", "perch(0, 9)=0 folk(1, 0)=0 badger(0)=0 at(0, 2)=1 meeting(0, 0)=0");
    }

    private static void promise34to36() {
        Runs.run(34, "rooms 0 .. 5", "free(-1)=-1 free(0)=6 free(5)=6 free(6)=-1 free(MIN)=-1 free(MAX)=-1");
        Runs.run(34, "the least n: now is 0", "terms(0, 6)=0 free(0)=0 terms(0, 5)=6 free(0)=1 terms(0, 17)=5 free(0)=0 terms(0, 18)=17 free(0)=12");
        Runs.run(34, "in 48", "law'theirs 1; theirs 0 if hour=48'=0 force(0)=-1 free(3)=48");
        Runs.run(34, "not in 48", "law'theirs 1; theirs 0 if hour=49'=0 force(0)=-1 free(3)=-1 terms(0, 1)=0 free(3)=48 terms(0, 49)=1 free(3)=0");
        Runs.run(34, "theirs 0 high, the nearest of what is below 0, too", "law'theirs 0-1'=0 force(0)=-1 free(0)=0 law'theirs 1; theirs 0-5 if",
            "room=2'=1 force(1)=0 free(2)=0 free(1)=-1");
        Runs.run(34, "hours go on beyond 999", "terms(0, 999)=0 law'theirs 1; theirs 0 if hour=1000+47'=0 force(0)=-1 free(0)=48");
        Runs.run(34, "as mood is now", "law'theirs mood'=0 force(0)=-1 terms(2, 3)=0 free(0)=-1 terms(2, 0)=3 free(0)=0");
        Runs.run(34, "badgers aside", "badger(0)=0 terms(0, 6)=0 free(0)=0");
        Runs.run(35, "what 0, 1", "shares(-1)=-1 shares(0)=0 shares(1)=0 shares(2)=-1 shares(MIN)=-1 shares(MAX)=-1");
        Runs.run(35, "no things: 0", Runs.ladder(0), "shares(0)=0 shares(1)=0");
        Runs.run(35, "one thing: the lesser is 0, the lowest part none", Runs.perches(1), "thing(0, 9, 9)=0 shares(0)=0 shares(1)=0");
        Runs.run(35, "six things, the lowest part", Runs.perches(1), SIX_THINGS, "shares(0)=27 shares(1)=7");
        Runs.run(35, "the sixth is folk's", Runs.perches(1), "thing(0, 0, 9)=0 thing(0, 0, 9)=1 thing(0, 0, 9)=2 thing(0, 0, 9)=3 thing(0, 0, 9)=4",
            "shares(0)=0 shares(1)=0 thing(0, 9, 9)=5 shares(0)=9 shares(1)=32");
        Runs.run(35, "worth to each of them", Runs.perches(1), "thing(0, 1, 9)=0 thing(0, 9, 1)=1 shares(0)=9 shares(1)=2");
        Runs.run(35, "the lowest of as good ones", Runs.perches(1), "thing(0, 4, 4)=0 thing(0, 4, 4)=1 shares(0)=4 shares(1)=1 thing(0, 0, 0)=2",
            "shares(1)=1");
        Runs.run(35, "the lesser counts, not the sum", Runs.perches(1), "thing(0, 9, 3)=0 thing(0, 5, 3)=1 thing(0, 1, 2)=2 shares(0)=5 shares(1)=1");
        Runs.run(36, "rooms 0 .. 5", "perch(5, 0)=0 thing(0, 0, 0)=0 low(-1)=-1 low(0)=0 low(5)=1 low(6)=-1 low(MIN)=-1 low(MAX)=-1");
        Runs.run(36, "things on perches there that are not safe now", "perch(0, 1)=0 perch(0, 2)=1 perch(1, 0)=2 thing(0, 0, 0)=0 thing(1, 0, 0)=1",
            "thing(2, 0, 0)=2 thing(0, 0, 0)=3 low(0)=9 low(1)=4 low(2)=0",
            "terms(0, 6)=0 low(0)=0 low(1)=0 terms(0, 18)=6 low(0)=9 put(3, 1)=0 low(0)=1");
        Runs.run(36, "as high as theirs is safe; by the law", "perch(0, 4)=0 perch(0, 5)=1 thing(0, 0, 0)=0 thing(1, 0, 0)=1 law'theirs 5'=0",
            "law'theirs 4'=1 law'theirs 6'=2 force(0)=-1 low(0)=1 force(1)=0 low(0)=0 force(2)=1 low(0)=3");
        Runs.run(36, "as mood is now", "perch(0, 4)=0 thing(0, 0, 0)=0 law'theirs mood'=0 force(0)=-1 terms(2, 5)=0 low(0)=1 terms(2, 4)=5 low(0)=0");
        Runs.run(36, "thing 5 is bit 5", Runs.perches(1), SIX_THINGS, "low(0)=63 law'theirs 0'=0 force(0)=-1 low(0)=0");
    }

    private static void promise37to40() {
        Runs.run(37, "n 0 .. 60", "seen(-1, 0)!-1 seen(0, 0)=1 seen(60, 0)=2 seen(61, 0)!-1 seen(MIN, 0)!-1 seen(MAX, 0)!-1 count(5)=2");
        Runs.run(37, "rooms 0 .. 5", "seen(0, -1)!-1 seen(0, 0)=1 seen(0, 5)=2 seen(0, 6)!-1 seen(0, MIN)!-1 seen(0, MAX)!-1 count(5)=2");
        Runs.run(37, "how often there was: 6 at most, -5; -1 ahead of it", "seen(0, 0)=1 seen(0, 0)=2 seen(0, 0)=3 seen(0, 0)=4 seen(0, 0)=5 seen(0,",
            "0)=6 seen(0, 0)!-5 seen(61, 0)!-1 seen(0, 6)!-1 count(5)=6");
        Runs.run(37, "it leaves what can be undone", "pass()=0 seen(3, 3)=1 seen(99, 0)!-1 count(7)=1 undo()=3 count(5)=1");
        Runs.run(38, "how often there was; nothing then", "forget()=0 seen(0, 0)=1 forget()=1 count(5)=0 forget()=0 seen(0, 0)=1 seen(0, 1)=2",
            "seen(0, 0)=3 seen(0, 0)=4 seen(0, 0)=5 seen(0, 0)=6 seen(0, 0)!-5 forget()=6 count(5)=0 seen(1, 1)=1");
        Runs.run(38, "all can be again", "badger(0)=0 badger(1)=1 seen(0, 1)=1 canBe()=2 forget()=1 canBe()=3");
        Runs.run(39, "nobody; nothing was seen: all", "canBe()=0 badger(0)=0 canBe()=1 badger(1)=1 badger(1)=2 canBe()=7");
        Runs.run(39, "nobody, whatever was seen", "seen(0, 0)=1 canBe()=0 look(0)=-1");
        Runs.run(39, "seen now: 0 hours on", "badger(0)=0 badger(1)=1 badger(1)=2 seen(0, 1)=1 canBe()=6 seen(0, 0)=2 canBe()=0");
        Runs.run(39, "seen 60 hours on", "badger(0)=0 badger(0)=1 door(0, 1)=1 law'goes room; goes 1 if badger=1 and hour=59'=0 force(0)=-1 seen(60,",
            "1)=1 canBe()=2 forget()=1 seen(59, 1)=1 canBe()=0 forget()=1 seen(59, 0)=1 canBe()=3");
        Runs.run(39, "all that was seen is so, the sixth, too", "badger(0)=0 badger(0)=1 door(0, 1)=1 law'goes room; goes 1 if badger=1 and",
            "hour=9'=0 force(0)=-1 seen(0, 0)=1 seen(1, 0)=2 seen(2, 0)=3 seen(3, 0)=4 seen(4, 0)=5 canBe()=3 seen(10, 1)=6 canBe()=2");
        Runs.run(39, "from now on: the hour in which it is asked", "badger(0)=0 door(0, 1)=1 seen(0, 0)=1 canBe()=1 pass()=0 canBe()=0 forget()=1",
            "seen(0, 1)=1 canBe()=1 undo()=3 canBe()=0");
        Runs.run(39, "hours go on beyond 999", "badger(0)=0 door(0, 1)=1 terms(0, 999)=0 law'goes room; goes 1 if hour=1000+58'=0 force(0)=-1",
            "seen(59, 0)=1 canBe()=1 seen(60, 1)=2 canBe()=1 seen(60, 0)=3 canBe()=0");
        Runs.run(40, "what 0, 1; it can be none", "look(0)=-1 look(1)=-1 badger(0)=0 look(-1)=-1 look(0)=0 look(1)=1 look(2)=-1 look(MIN)=-1",
            "look(MAX)=-1 seen(0, 1)=1 look(0)=-1 look(1)=-1");
        Runs.run(40, "as few as can be: three rooms now", "badger(0)=0 badger(1)=1 badger(2)=2 look(0)=0 look(1)=1");
        Runs.run(40, "the most in one room: three, then two", "badger(0)=0 badger(0)=1 badger(0)=2 look(0)=0 look(1)=3 door(0, 1)=1 look(0)=0",
            "law'goes room; goes 1 if badger=2 and hour=3'=0 force(0)=-1 look(0)=4 look(1)=2");
        Runs.run(40, "the least n of as few", "badger(0)=0 badger(0)=1 door(0, 1)=1 law'goes room; goes 1 if badger=0 and hour=2; goes 0 if hour=3;",
            "goes 1 if badger=0 and hour=4'=0 force(0)=-1 look(0)=3 look(1)=1");
        Runs.run(40, "one hour on", "badger(0)=0 badger(0)=1 door(0, 1)=1 law'goes room; goes 1 if badger=0 and hour=0'=0 force(0)=-1 look(0)=1",
            "look(1)=1");
        Runs.run(40, "now, though they meet in one hour", "badger(0)=0 badger(1)=1 door(0, 1)=1 law'goes room; goes 1 if badger=0 and hour=0'=0",
            "force(0)=-1 look(0)=0 look(1)=1");
        Runs.run(40, "60 hours on", "badger(0)=0 badger(0)=1 door(0, 1)=1 law'goes room; goes 1 if badger=0 and hour=59'=0 force(0)=-1 look(0)=60",
            "look(1)=1");
        Runs.run(40, "not 61 hours on", "badger(0)=0 badger(0)=1 door(0, 1)=1 law'goes room; goes 1 if badger=0 and hour=60'=0 force(0)=-1 look(0)=0",
            "look(1)=2");
        Runs.run(40, "of those that can be alone", "badger(0)=0 badger(0)=1 badger(1)=2 door(1, 0)=1 seen(0, 0)=1 look(0)=0 look(1)=2 law'goes room;",
            "goes 1 if badger=1 and hour=5'=0 force(0)=-1 look(0)=6 look(1)=1 seen(6, 1)=2 look(0)=0 look(1)=1");
        Runs.run(40, "in room 5, too", "badger(5)=0 badger(5)=1 look(1)=2 look(0)=0");
        Runs.run(40, "hours go on beyond 999", "badger(0)=0 badger(0)=1 door(0, 1)=1 terms(0, 999)=0 law'goes room; goes 1 if badger=0 and",
            "hour=1000+58'=0 force(0)=-1 look(0)=60");
    }

    private static void promise41() {
        Runs.run(41, "k 1 .. 20, n 0 .. 99", "few(0, 0)=-1 few(1, 0)=1000000000000 few(20, 0)=1000000000000 few(21, 0)=-1 few(1, -1)=-1 few(1,",
            "100)=-1",
            "few(MIN, 0)=-1 few(MAX, 0)=-1 few(1, MIN)=-1 few(1, MAX)=-1 few(1, 99)=" + oneIn(9));
        Runs.run(41, "fewer than k of n", "few(1, 1)=900000000000 few(2, 1)=1000000000000 few(1, 2)=810000000000 few(2, 2)=990000000000 few(3,",
            "2)=1000000000000 few(20, 20)=999999999894 few(20, 99)=998255635351");
        Runs.run(41, "both cut", "terms(1, 3)=1 few(1, 13)=9688901040 few(1, 14)=6782230728 few(2, 13)=63669921123 few(3, 14)=160835757272 few(10,",
            "40)=195925423636 few(1, 99)=" + oneIn(7));
        Runs.run(41, "snores 0: none does", "terms(1, 0)=1 few(1, 0)=1000000000000 few(1, 99)=1000000000000 few(20, 99)=1000000000000");
        Runs.run(41, "snores 10: all do", "terms(1, 10)=1 few(1, 0)=1000000000000 few(1, 1)=0 few(19, 19)=0 few(20, 19)=1000000000000 few(20, 20)=0",
            "few(20, 99)=0");
        Runs.run(41, "snores 9, 7, 5, 2", "terms(1, 9)=1 few(20, 20)=878423345307 terms(1, 7)=9 few(2, 20)=1660 terms(1, 5)=7 few(20,",
            "21)=999989509524 terms(1, 2)=5 few(20, 99)=480021412253");
        Runs.run(41, "whatever badgers there are in the house", "badger(0)=0 few(1, 1)=900000000000");
    }

    /** What is left of all when 99 of whom none snores are cut by ten each. */
    private static long oneIn(int rest) {
        long part = 1_000_000_000_000L;
        for (int badger = 0; badger < 99; badger++) {
            part = part * rest / 10;
        }
        return part;
    }

    private static void promise42() {
        Runs.run(42, "laws: none is no law; none such", "compare(-1, 0)=2 compare(0, 0)=-1 compare(-2, 0)=-1 law'theirs 4'=0 compare(0, 0)=4",
            "compare(1, 0)=-1 compare(-1, 0)=2 compare(MIN, 0)=-1 compare(MAX, 0)=-1");
        Runs.run(42, "law 5 is the last", "law'theirs 0'=0 law'theirs 1'=1 law'theirs 0'=2 law'theirs 3'=3 law'theirs 4'=4 law'theirs 5'=5",
            "compare(5, 0)=5 compare(6, 0)=-1 compare(1, 0)=1");
        Runs.run(42, "rooms 0 .. 5", "law'theirs room+3'=0 compare(0, -1)=-1 compare(0, 0)=3 compare(0, 5)=8 compare(0, 6)=-1 compare(-1, 6)=-1",
            "compare(-1, -1)=-1 compare(0, MIN)=-1 compare(0, MAX)=-1");
        Runs.run(42, "in place of that in force, which stays", "law'theirs 4'=0 law'theirs 9'=1 force(1)=-1 compare(0, 2)=4 compare(1, 2)=9",
            "compare(-1, 2)=2 room(2, 0)=9 count(14)=1");
        Runs.run(42, "now", "law'theirs 4 if hour=6'=0 compare(0, 0)=2 terms(0, 6)=0 compare(0, 0)=4 compare(-1, 0)=0 terms(0, 7)=6 compare(0, 0)=0");
        Runs.run(42, "as mood is now", "law'theirs mood'=0 terms(2, 5)=0 compare(0, 0)=5 terms(2, 4)=5 compare(0, 0)=4");
        Runs.run(42, "0 .. 10, the nearest", "law'theirs 11'=0 law'theirs 0-1'=1 law'theirs 10'=2 compare(0, 0)=10 compare(1, 0)=0 compare(2, 0)=10");
    }

    private static void promise43and44() {
        Runs.run(43, "seeds 0 .. 1,000,000", Runs.ladder(9, 9), "dusks(-1, 1)!-1 dusks(0, 1)=0 dusks(1000000, 1)=0 dusks(1000001, 1)!-1 dusks(MIN,",
            "1)!-1 dusks(MAX, 1)!-1");
        Runs.run(43, "n 1 .. 60", Runs.ladder(9, 9), "dusks(0, 0)!-1 dusks(0, 1)=0 dusks(0, 60)=0 dusks(0, 61)!-1 dusks(0, -1)!-1 dusks(0, MIN)!-1",
            "dusks(0, MAX)!-1");
        Runs.run(43, "-3: there are no folk; -1 ahead of it", "dusks(0, 1)!-3 perch(0, 0)=0 badger(0)=0 dusks(0, 1)!-3 dusks(-1, 1)!-1 dusks(0,",
            "61)!-1 drawn(0, 1)=-1 folk(1, 0)=0 dusks(0, 1)=1");
        Runs.run(43, "at 0, 1, 2 one strides to that perch, at 3 nothing", Runs.ladder(9, 9), "dusks(7, 1)=0 drawn(0, 0)=1 dusks(0, 1)=0 drawn(0,",
            "0)=1 dusks(1, 1)=0 drawn(0, 0)=1 dusks(19, 1)=0 drawn(0, 0)=0",
            "dusks(3, 1)=0 drawn(0, 0)=0");
        Runs.run(43, "if it can: strides, legs, doors, bars", "perch(0, 9)=0 perch(1, 9)=1 folk(4, 0)=0 link(0, 1, 5)=0 door(0, 1)=1 dusks(7, 1)=0",
            "drawn(0, 0)=0 link(0, 1, 4)=5 dusks(7, 1)=0 drawn(0, 0)=1 door(0, 1)=0 dusks(7, 1)=0 drawn(0, 0)=0",
            "door(0, 1)=1 law'bars if hour=0'=0 force(0)=-1 dusks(7, 1)=0 drawn(0, 0)=0 terms(0, 1)=0 dusks(7, 1)=0 drawn(0, 0)=1");
        Runs.run(43, "draws of folk, of perches, of 4: one of four, one of ten", Runs.perches(10), "folk(9, 0)=0 folk(9, 0)=1 folk(9, 0)=2 folk(9,",
            "0)=3 row'0 1 1 0 6 1 6 8 1'=3",
            "dusks(0, 1)=0 drawn(0, 0)=0 drawn(1, 0)=1 drawn(2, 0)=0 drawn(3, 0)=0 dusks(0, 2)=0 drawn(1, 0)=0 dusks(0, 3)=0 drawn(1, 0)=1",
            "dusks(1000000, 1)=0 drawn(0, 0)=6 dusks(1000000, 2)=0 drawn(3, 0)=0 drawn(0, 0)=6");
        Runs.run(43, "then the hour passes: caught behind the stride", Runs.ladder(0, 9), "badger(0)=0 dusks(7, 1)=0 dusks(19, 1)=1 dusks(19,",
            "60)=" + caughtIn(19, 60));
        Runs.run(43, "badgers go", Runs.ladder(9), "badger(3)=0 door(3, 4)=1 door(4, 5)=1 door(5, 0)=1 dusks(0, 1)=0 drawn(0, 1)=4 dusks(0, 2)=0",
            "drawn(0, 1)=5 dusks(0, 3)=0 drawn(0, 1)=0 dusks(0, 60)=0 drawn(0, 1)=0");
        Runs.run(43, "as long as hour is below 999", Runs.ladder(0), "badger(0)=0 law'theirs 1'=0 force(0)=-1 terms(0, 997)=0 dusks(0, 1)=1 dusks(0,",
            "60)=2 terms(0, 998)=997 dusks(0, 60)=1 terms(0, 999)=998 dusks(0, 60)=0 drawn(0, 0)=0 drawn(0, 1)=0");
        Runs.run(43, "sixty hours", Runs.ladder(0), "badger(0)=0 law'theirs 1'=0 force(0)=-1 dusks(0, 60)=60 dusks(0, 59)=59");
        Runs.run(43, "on paper: all is as it was", Runs.ladder(0, 9), "badger(0)=0 door(0, 1)=1 dusks(0, 60)=0 of(0, 1)=0 sow(0, 0)=0 count(4)=0",
            "count(15)=0 count(7)=1");
        Runs.run(43, "by how much caught is more, what was caught ahead aside", Runs.ladder(0), "badger(0)=0 pass()=1 pass()=1 dusks(0, 1)=1",
            "dusks(0, 3)=3 dusks(0, 4)=4 dusks(0, 5)=4 count(4)=2");
        Runs.run(43, "kept as the latest; a refused one leaves it", Runs.ladder(9, 9), "dusks(7, 1)=0 drawn(0, 0)=1 dusks(7, 61)!-1 dusks(-1, 1)!-1",
            "drawn(0, 0)=1 dusks(19, 1)=0 drawn(0, 0)=0");
        Runs.run(44, "none ahead of any", Runs.ladder(9), "badger(0)=0 drawn(0, 0)=-1 drawn(0, 1)=-1 dusks(-1, 1)!-1 drawn(0, 0)=-1 dusks(0, 1)=0",
            "drawn(0, 0)=0 drawn(0, 1)=0");
        Runs.run(44, "what 0 the perch of folk k, 1 the room of badger k", Runs.ladder(9), "badger(4)=0 dusks(0, 1)=0 drawn(0, -1)=-1 drawn(0, 0)=0",
            "drawn(0, 1)=4 drawn(0, 2)=-1 drawn(0, MIN)=-1 drawn(0, MAX)=-1");
        Runs.run(44, "no such folk, badger", Runs.ladder(9), "badger(4)=0 badger(5)=1 dusks(0, 1)=0 drawn(-1, 0)=-1 drawn(1, 0)=-1 drawn(-1, 1)=-1",
            "drawn(1, 1)=5 drawn(2, 1)=-1 drawn(MIN, 0)=-1 drawn(MAX, 1)=-1");
        Runs.run(44, "folk 3, badger 2 are the last", Runs.ladder(9), "folk(1, 0)=1 folk(1, 0)=2 folk(1, 0)=3 badger(1)=0 badger(1)=1 badger(2)=2",
            "dusks(0, 1)=0 drawn(3, 0)=0 drawn(4, 0)=-1 drawn(2, 1)=2 drawn(3, 1)=-1");
        Runs.run(44, "as it was behind the dusks, whatever came then", Runs.ladder(9, 9), "badger(2)=0 dusks(0, 1)=0 drawn(0, 0)=1 folk(1, 1)=1",
            "badger(3)=1 drawn(1, 0)=-1 drawn(1, 1)=-1 stride(0, 1)=1 door(2, 3)=1 pass()=0 drawn(0, 0)=1 drawn(0, 1)=2");
    }

    /** Caught on a ladder of a perch that is not safe and one that is, with a badger that stays. */
    private static int caughtIn(int seed, int n) {
        long s = seed;
        int on = 0;
        int caught = 0;
        for (int hour = 0; hour < n; hour++) {
            s = (s * 1103 + 12345) % 1_000_003;
            s = (s * 1103 + 12345) % 1_000_003;
            int to = (int) (s % 2);
            s = (s * 1103 + 12345) % 1_000_003;
            on = s % 4 == 3 ? on : to;
            caught += on == 0 && (hour % 24 >= 18 || hour % 24 <= 5) ? 1 : 0;
        }
        return caught;
    }

    public static void main(String[] args) {
        promise28();
        promise29();
        promise30();
        promise31();
        promise32and33();
        promise34to36();
        promise37to40();
        promise41();
        promise42();
        promise43and44();
        Due.end("EdgesPaperTest");
    }
}
