import java.util.List;

/** Promises 47 and 48, and what calls that are refused, and calls that only ask, leave as it was. */
public final class EdgesRefusedTest {
    private static final String LAWS = "law'theirs 3 if room=0'=0 law'bars if perch=1'=1 law'theirs 4;goes room+1'=2 law'bars'=3 "
        + "law'goes 0'=4 law'theirs mood'=5 ";
    /** All places are taken, the hour is at its last, four deeds can be undone, an image and dusks are kept, orders stopped. */
    private static final String FULL = "perch(0, 0)=0 perch(0, 3)=1 perch(1, 1)=2 perch(1, 5)=3 perch(2, 9)=4 perch(3, 2)=5 perch(4, 0)=6 "
        + "perch(5, 7)=7 perch(0, 9)=8 perch(2, 0)=9 "
        + "row'0 1 2 1 8 3 0 2 4 2 3 1 3 4 5 8 9 9 1 1 1'=6 folk(9, 0)=0 folk(2, 3)=1 folk(3, 2)=2 folk(4, 9)=3 badger(0)=0 badger(1)=1 badger(5)=2 "
        + "thing(0, 1, 9)=0 thing(2, 2, 8)=1 thing(4, 3, 7)=2 thing(6, 4, 6)=3 thing(8, 5, 5)=4 thing(9, 6, 4)=5 " + LAWS + "force(2)=-1 "
        + "door(0, 1)=1 door(1, 2)=1 door(5, 0)=1 seen(0, 0)=1 seen(1, 1)=2 seen(2, 2)=3 seen(3, 2)=4 seen(4, 2)=5 seen(5, 2)=6 "
        + "image(0)=0 dusks(77, 9)=? terms(0, 998)=0 terms(1, 4)=1 terms(2, 7)=0 orders'pass; door 0 by 0'!-3 "
        + "stride(0, 1)=0 put(5, 7)=9 door(0, 4)=1 pass()=2 tape'pass if hour=3'=14 ";
    /** No folk, nothing to undo, no tape. */
    private static final String SMALL = "perch(0, 3)=0 perch(5, 1)=1 link(0, 1, 3)=0 badger(2)=0 thing(1, 2, 3)=0 seen(9, 2)=1 terms(0, 30)=0 "
        + "door(0, 5)=1 law'theirs 5'=0 force(0)=-1 image(0)=0 "
        + "badger(3)=1 row'1'=0 orders'pass; put 0 on 1'!-3 law'x'!-6 ";

    /** The promises of the calls that are refused, in the document's order. */
    private static final List<String> NAMES = List.of("LowerHalf", "perch", "at", "folk", "of", "badger", "sow", "thing", "has", "link", "room",
        "can", "terms", "feed", "end", "row", "scratches", "law", "orders", "fault", "stopped", "force", "stride", "put", "door", "pass", "undo",
        "soonest", "near", "cut", "roost", "where", "meeting", "free", "shares", "low", "seen", "forget", "canBe", "look", "few", "compare",
        "dusks", "drawn", "image", "back", "count", "status");

    private static void leaves(String setUp, String... calls) {
        for (String call : calls) {
            int promise = 1 + NAMES.indexOf(call.split("\\W")[0]);
            Runs.leaves(promise, "what is refused leaves all as it was", setUp, call);
        }
    }

    private static void refusedCallsLeaveAll() {
        leaves(FULL, "perch(-1, 0)!-1", "perch(6, 0)!-1", "perch(0, -1)!-1", "perch(0, 10)!-1", "perch(0, 0)!-5");
        leaves(FULL, "folk(0, 0)!-1", "folk(10, 0)!-1", "folk(1, -1)!-2", "folk(1, 10)!-2", "folk(1, 0)!-5", "badger(-1)!-1", "badger(6)!-1",
            "badger(0)!-5");
        leaves(FULL, "thing(0, -1, 0)!-1", "thing(0, 10, 0)!-1", "thing(0, 0, -1)!-1", "thing(0, 0, 10)!-1", "thing(-1, 0, 0)!-2",
            "thing(10, 0, 0)!-2", "thing(0, 0, 0)!-5");
        leaves(FULL, "link(0, 1, -1)!-1", "link(0, 1, 10)!-1", "link(1, 1, 3)!-1", "link(-1, 0, 3)!-2", "link(0, 10, 3)!-2", "terms(-1, 0)!-1",
            "terms(3, 0)!-1", "terms(0, -1)!-1", "terms(0, 1000)!-1",
            "terms(1, -1)!-1", "terms(1, 11)!-1", "terms(2, -1)!-1", "terms(2, 10)!-1", "force(-2)!-2", "force(6)!-2");
        leaves(FULL, "stride(-1, 0)!-2", "stride(4, 0)!-2", "stride(0, -1)!-2", "stride(0, 10)!-2", "stride(0, 1)!-3", "stride(0, 9)!-3",
            "stride(1, 4)!-3", "put(-1, 0)!-2", "put(6, 0)!-2", "put(0, -1)!-2", "put(0, 10)!-2", "put(5, 7)!-3");
        leaves(FULL, "door(-1, 0)!-1", "door(6, 0)!-1", "door(0, -1)!-1", "door(0, 6)!-1", "door(2, 2)!-1", "pass()!-3", "seen(-1, 0)!-1",
            "seen(61, 0)!-1", "seen(0, -1)!-1", "seen(0, 6)!-1", "seen(0, 0)!-5");
        leaves(FULL, "dusks(-1, 1)!-1", "dusks(1000001, 1)!-1", "dusks(1, 0)!-1", "dusks(1, 61)!-1", "image(-1)!-1", "image(2)!-1", "back(-1)!-1",
            "back(2)!-1", "back(1)!-2");
        leaves(SMALL, "undo()!-3", "dusks(1, 1)!-3", "row()!-6", "back(1)!-2", "stride(0, 0)!-2", "put(0, 1)!-3", "folk(0, 0)!-1",
            "law'theirs'!-6 law'x'!-6", "force(1)!-2");
    }

    private static void refusedTextsLeaveTheRest() {
        Runs.leaves(18, "a law that is refused by -6 leaves all but fault", SMALL, "law'bars; theirs 1 if 1'!-6", "fault()");
        Runs.leaves(18, "a law that is refused by -5 leaves all but the tape, fault, too", FULL + "end(0)=0 ", "law'bars; x'!-5");
        Runs.leaves(19, "orders that are refused by -6 leave all but fault, and where orders stopped", FULL + "end(0)=0 ",
            "orders'stride 0 to 8; put 0 on 9; pas'!-6", "fault()", "stopped()");
        Runs.leaves(19, "orders that can't be leave all but fault, and where orders stopped", FULL + "end(0)=0 ",
            "orders'stride 0 to 8; put 0 on 9; door 0 by 3; door 4 by 0; pass'!-3", "fault()", "stopped()");
        Runs.leaves(19, "orders that can't be, with more than 16 deeds", FULL + "end(0)=0 ",
            "orders'door 0 by 1 times 20; door 2 by 3 times 19; stride 0 to 1'!-3", "stopped()");
        Runs.leaves(19, "orders that can't be, with hours", FULL.replace("998", "900") + "end(0)=0 ",
            "orders'pass times 20; stride 0 to 8; pass times 3; put 0 on 10'!-3", "stopped()");
        Runs.leaves(19, "orders that run nothing", FULL + "end(0)=0 ", "orders'pass if 1=2; door 0 by 0 if 1/0=1'=0", "stopped()");
        Runs.leaves(16, "a row of scratches alone leaves all but scratches", FULL + "end(0)=0 ", "row'0 0 1 0 10 1 10 0 1 0 1 10'=0", "scratches()");
    }

    private static void askingLeavesAll() {
        Runs.leaves(48, "what only asks leaves all as it was", FULL,
            "soonest(0, 8, -1)=? soonest(2, 0, 0)=? near(0, 10)=? cut(0, 4, 0)=? cut(0, 4, 1)=? roost(0)=? where(0, 60)=? meeting(0, 1)=? free(0)=?"
            + " shares(0)=? low(0)=? canBe()=? look(0)=? few(3, 9)=? compare(0, 0)=? can(0, 1)=? drawn(0, 0)=? count(9)=? status()=? "
            + "scratches()=? fault()=? stopped()=?");
        Runs.leaves(48, "what is answered by none leaves all as it was", FULL,
            "at(10, 0)=-1 at(0, 13)=-1 of(4, 0)=-1 sow(3, 0)=-1 has(6, 0)=-1 room(6, 0)=-1 can(4, 0)=-1 end(15)=-1 end(-1)=-1 soonest(4, 0, 0)=-1"
            + " near(0, 11)=-1 cut(0, 10, 0)=-1 roost(4)=-1 where(3, 0)=-1 meeting(0, 3)=-1 free(6)=-1 shares(2)=-1 low(6)=-1 look(2)=-1 "
            + "few(0, 0)=-1 compare(6, 0)=-1 drawn(4, 0)=-1 count(18)=-1");
        Runs.leaves(28, "soonest asked of all", SMALL + "folk(9, 0)=0 ", "soonest(0, 1, -1)=? soonest(0, 0, -1)=0");
    }

    private static void promise47() {
        Runs.run(47, "0 .. 17, none for others", "count(-1)=-1 count(18)=-1 count(MIN)=-1 count(MAX)=-1 count(0)=0 count(17)=0");
        Runs.run(47, "perches, folk, badgers, things at their most", Runs.perches(10), "folk(1, 0)=0 folk(1, 0)=1 folk(1, 0)=2 folk(1, 0)=3",
            "badger(0)=0 badger(0)=1 badger(0)=2",
            "thing(0, 0, 0)=0 thing(0, 0, 0)=1 thing(0, 0, 0)=2 thing(0, 0, 0)=3 thing(0, 0, 0)=4 thing(0, 0, 0)=5 count(0)=10 count(1)=4 count(2)=3",
            "count(3)=6");
        Runs.run(47, "each of them one", "perch(0, 0)=0 count(0)=1 count(1)=0 folk(1, 0)=0 count(1)=1 count(2)=0 badger(0)=0 count(2)=1 count(3)=0",
            "thing(0, 0, 0)=0 count(3)=1 count(4)=0",
            "pass()=1 count(4)=1 count(5)=0 seen(0, 0)=1 count(5)=1 count(6)=0 law'bars'=0 count(6)=1 count(7)=1 undo()=3 count(7)=0 count(8)=0",
            "tape'x'=1 count(8)=1");
        Runs.run(47, "seen, laws, deeds at their most", "seen(0, 0)=1 seen(0, 0)=2 seen(0, 0)=3 seen(0, 0)=4 seen(0, 0)=5 seen(0, 0)=6 seen(0, 0)!-5",
            "count(5)=6", LAWS, "law'bars'!-5 count(6)=6 pass()=0*17 count(7)=16");
        Runs.run(47, "refused by -1, -2, -3, -5, -6, each kind for itself", "perch(6, 0)!-1 count(9)=1 count(10)=0 stride(0, 0)!-2 count(10)=1",
            "count(11)=0 undo()!-3 count(11)=1 count(12)=0",
            "badger(0)=0 badger(0)=1 badger(0)=2 badger(0)!-5 count(12)=1 count(13)=0 row()!-6 count(13)=1 count(9)=1 law()!-6 orders()!-6",
            "count(13)=3 undo()!-3 count(11)=2");
        Runs.run(47, "the law in force", "count(14)=-1 law'bars'=0 count(14)=-1 force(0)=-1 count(14)=0 force(9)!-2 count(14)=0 force(-1)=0",
            "count(14)=-1");
        Runs.run(47, "terms", "terms(0, 999)=0 terms(1, 10)=1 terms(2, 9)=0 count(15)=999 count(16)=10 count(17)=9 terms(0, 1)=999 pass()=0",
            "count(15)=2 count(16)=10");
        Runs.run(47, "none is not a refusal: where what was told is -1", "law'bars'=0 force(0)=-1 force(-1)=0 force(-1)=-1 at(0, 0)=-1 end(1)=-1",
            "count(9)=0 count(10)=0");
    }

    private static void promise48() {
        Runs.run(48, "0 ahead of any", "status()=0 at(0, 0)=-1 end(9)=-1 forget()=0 status()=0");
        String refused = "badger(0)=0 badger(0)=1 badger(0)=2 badger(0)!-5 ";
        String[] listed = {"perch(0, 0)=0", "folk(1, 0)!-2", "badger(6)!-1", "thing(0, 0, 0)!-2", "link(0, 0, 0)!-1", "terms(0, 1)=0", "row()!-6",
            "law()!-6", "orders()!-6", "force(-1)=-1", "stride(0, 0)!-2",
            "put(0, 0)!-2", "door(0, 1)=1", "pass()=0", "undo()!-3", "seen(0, 0)=1", "dusks(0, 1)!-3", "image(0)=0", "back(0)!-2"};
        for (String call : listed) {
            Runs.run(48, "of the latest of the calls that are told of", refused, call,
                "status()=" + (call.contains("!") ? call.substring(call.indexOf('!') + 1) : "0"));
        }
        String stands = "perch(0, 0)=0 perch(0, 9)=1 link(0, 1, 1)=0 folk(1, 0)=0 thing(0, 0, 0)=0 badger(0)=0 image(0)=0 door(0, 1)=1 "
            + "perch(6, 0)!-1 ";
        String[] done = {"perch(0, 0)=2", "folk(1, 0)=1", "badger(5)=1", "thing(0, 0, 0)=1", "link(0, 1, 1)=1", "terms(0, 1)=0", "row'0 1 1'=1",
            "law'bars'=0", "orders'pass'=1", "force(-1)=-1", "stride(0, 1)=1", "put(0, 1)=0",
            "door(0, 1)=0", "pass()=1", "undo()=2", "seen(0, 0)=1", "dusks(0, 1)=0", "image(1)=0", "back(0)=0"};
        for (String call : done) {
            Runs.run(48, "0 if it was not refused", stands, call, "status()=0");
        }
        String[] others = {"at(0, 0)=0", "at(9, 0)=-1", "of(0, 0)=1", "sow(0, 1)=1", "has(0, 9)=-1", "room(9, 0)=-1", "can(0, 1)=1",
            "feed(0, 0, 0, 0, 0)=20", "end(1)=-1", "end(0)=0", "scratches()=0", "fault()=-1", "stopped()=-1",
            "soonest(0, 1, -1)=1", "near(0, 1)=3", "cut(0, 1, 0)=-1", "roost(0)=1", "where(0, 1)=1", "meeting(0, 0)=0", "free(0)=6", "shares(0)=0",
            "low(0)=1", "forget()=0", "canBe()=1", "look(0)=0", "few(1, 1)=900000000000",
            "compare(9, 0)=-1", "drawn(0, 0)=-1", "count(99)=-1"};
        for (String call : others) {
            Runs.run(48, "other calls leave it", stands, call, "status()=-1");
        }
        Runs.run(48, "orders tell it of themselves, not of what they run", "orders'door 0 by 0'!-3 status()=-3 orders'stride 0 to 0'!-3 status()=-3",
            "orders'pass'=1 status()=0");
        Runs.run(48, "rows tell it of themselves, not of a scratch", "row'9 9 9'=0 status()=0");
    }

    public static void main(String[] args) {
        refusedCallsLeaveAll();
        refusedTextsLeaveTheRest();
        askingLeavesAll();
        promise47();
        promise48();
        Due.end("EdgesRefusedTest");
    }
}
