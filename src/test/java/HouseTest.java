/** Promises 1 to 13, 47 and 48: what stands in the house. */
public final class HouseTest {
    /** Promise 1. */
    private static void newObject() {
        LowerHalf x = new LowerHalf();
        for (int what = 0; what <= 13; what++) {
            Due.is("new: count " + what, x.count(what), 0);
        }
        Due.is("new: force", x.count(14), LowerHalf.NONE);
        Due.is("new: hour", x.count(15), 0);
        Due.is("new: snores", x.count(16), 1);
        Due.is("new: mood", x.count(17), 0);
        Due.is("new: status", x.status(), 0);
        Due.is("new: fault", x.fault(), -1);
        Due.is("new: stopped", x.stopped(), -1);
        Due.is("new: scratches", x.scratches(), 0);
        Due.is("new: drawn", x.drawn(0, 0), -1);
        for (int room = 0; room < 6; room++) {
            Due.is("new: doors of " + room, x.room(room, 1), 0);
            Due.is("new: badgers in " + room, x.room(room, 2), 0);
        }
    }

    /** Promises 2 and 3. */
    private static void perches() {
        LowerHalf x = new LowerHalf();
        for (int k = 0; k < 10; k++) {
            Due.isWith(x, "perch", x.perch(k % 6, k), k, 0);
        }
        Due.refused(x, "the 11th perch", x.perch(0, 0), -5);
        Due.refused(x, "a room too high ahead of no room", x.perch(6, 0), -1);
        Due.refused(x, "room -1", x.perch(-1, 0), -1);
        Due.refused(x, "high 10", x.perch(0, 10), -1);
        Due.refused(x, "high -1", x.perch(0, -1), -1);
        Due.is("at room", x.at(7, 0), 1);
        Due.is("at high", x.at(7, 1), 7);
        Due.is("at safe", x.at(2, 2), 1);
        Due.is("at not safe", x.at(1, 2), 0);
        x.link(7, 9, 4);
        Due.is("at long", x.at(7, 12), 4);
        Due.is("at long, the other way", x.at(9, 10), 4);
        Due.is("at long to itself", x.at(7, 10), 0);
        Due.is("at without strides", x.at(7, 3), 0);
        Due.is("at what 13", x.at(7, 13), -1);
        Due.is("at what -1", x.at(7, -1), -1);
        Due.is("at what least", x.at(7, Integer.MIN_VALUE), -1);
        Due.is("at no perch", x.at(10, 0), -1);
        Due.is("at perch -1", x.at(-1, 0), -1);
        Due.is("at leaves the status", x.status(), 0);
        LowerHalf y = new LowerHalf();
        y.perch(0, 0);
        Due.is("at to a perch that is not there", y.at(0, 4), -1);
    }

    /** Promises 4 and 5. */
    private static void folk() {
        LowerHalf x = new LowerHalf();
        x.perch(3, 1);
        x.perch(4, 1);
        Due.refused(x, "legs 0 ahead of no perch", x.folk(0, 9), -1);
        Due.refused(x, "legs 10", x.folk(10, 0), -1);
        Due.refused(x, "no perch", x.folk(1, 2), -2);
        Due.refused(x, "perch -1", x.folk(1, -1), -2);
        for (int k = 0; k < 4; k++) {
            Due.isWith(x, "folk", x.folk(k == 3 ? 9 : k + 1, k % 2), k, 0);
        }
        Due.refused(x, "no such perch ahead of no room", x.folk(1, 2), -2);
        Due.refused(x, "the 5th of the folk", x.folk(1, 0), -5);
        Due.is("legs", x.of(3, 0), 9);
        Due.is("perch", x.of(3, 1), 1);
        Due.is("of what 2", x.of(3, 2), -1);
        Due.is("of what -1", x.of(3, -1), -1);
        Due.is("of no folk", x.of(4, 0), -1);
        Due.is("of folk -1", x.of(-1, 1), -1);
    }

    /** Promises 6 and 7. */
    private static void badgers() {
        LowerHalf x = new LowerHalf();
        Due.refused(x, "badger in 6", x.badger(6), -1);
        Due.refused(x, "badger in -1", x.badger(-1), -1);
        Due.isWith(x, "badger", x.badger(0), 0, 0);
        Due.isWith(x, "badger", x.badger(5), 1, 0);
        Due.isWith(x, "badger", x.badger(5), 2, 0);
        Due.refused(x, "the 4th badger", x.badger(0), -5);
        Due.refused(x, "a 4th badger in 6", x.badger(6), -1);
        Due.is("sow room", x.sow(1, 0), 5);
        Due.is("sow stays, the door is shut", x.sow(1, 1), 5);
        x.door(5, 0);
        Due.is("sow goes to 0 behind 5", x.sow(1, 1), 0);
        Due.is("sow of 0 stays", x.sow(0, 1), 0);
        Due.is("badgers in 5", x.room(5, 2), 2);
        Due.is("sow what 2", x.sow(0, 2), -1);
        Due.is("sow what -1", x.sow(0, -1), -1);
        Due.is("sow no badger", x.sow(3, 0), -1);
        Due.is("sow badger -1", x.sow(-1, 0), -1);
    }

    /** Promises 8 and 9. */
    private static void things() {
        LowerHalf x = new LowerHalf();
        x.perch(0, 0);
        Due.refused(x, "worth 10 to folk ahead of no perch", x.thing(5, 10, 0), -1);
        Due.refused(x, "worth -1 to badgers", x.thing(0, 0, -1), -1);
        Due.refused(x, "worth -1 to folk", x.thing(0, -1, 0), -1);
        Due.refused(x, "worth 10 to badgers", x.thing(0, 0, 10), -1);
        Due.refused(x, "no perch", x.thing(1, 0, 0), -2);
        for (int k = 0; k < 6; k++) {
            Due.isWith(x, "thing", x.thing(0, 9 - k, k), k, 0);
        }
        Due.refused(x, "the 7th thing", x.thing(0, 0, 0), -5);
        Due.refused(x, "a 7th thing on no perch", x.thing(1, 0, 0), -2);
        Due.is("has perch", x.has(2, 0), 0);
        Due.is("has to folk", x.has(2, 1), 7);
        Due.is("has to badgers", x.has(2, 2), 2);
        Due.is("has what 3", x.has(2, 3), -1);
        Due.is("has what -1", x.has(2, -1), -1);
        Due.is("has no thing", x.has(6, 0), -1);
        Due.is("has thing -1", x.has(-1, 0), -1);
    }

    /** Promise 10. */
    private static void links() {
        LowerHalf x = new LowerHalf();
        x.perch(0, 0);
        x.perch(0, 0);
        x.door(0, 1);
        Due.isWith(x, "link", x.link(0, 1, 9), 0, 0);
        Due.isWith(x, "link again", x.link(1, 0, 3), 9, 0);
        Due.isWith(x, "link none", x.link(0, 1, 0), 3, 0);
        Due.refused(x, "long 10", x.link(0, 1, 10), -1);
        Due.refused(x, "long -1", x.link(0, 1, -1), -1);
        Due.refused(x, "one alone", x.link(1, 1, 1), -1);
        Due.refused(x, "one alone that is not there", x.link(7, 7, 1), -1);
        Due.refused(x, "no such one", x.link(2, 0, 1), -2);
        Due.refused(x, "no such other", x.link(0, -1, 1), -2);
        Due.is("link leaves what can be undone", x.count(7), 1);
    }

    /** Promises 11 and 12. */
    private static void roomsAndCan() {
        LowerHalf x = new LowerHalf();
        Due.is("theirs at 0", x.room(0, 0), 2);
        for (int hour = 0; hour <= 48; hour++) {
            x.terms(0, hour);
            int clock = hour % 24;
            Due.is("theirs at " + hour, x.room(hour % 6, 0), clock >= 18 || clock <= 5 ? 2 : 0);
        }
        x.door(2, 5);
        x.door(0, 2);
        Due.is("doors of 2", x.room(2, 1), 33);
        Due.is("doors of 5", x.room(5, 1), 4);
        Due.is("room what 3", x.room(2, 3), -1);
        Due.is("room what -1", x.room(2, -1), -1);
        Due.is("room 6", x.room(6, 0), -1);
        Due.is("room -1", x.room(-1, 0), -1);
        x.perch(0, 0);
        x.perch(1, 0);
        x.perch(0, 0);
        x.folk(4, 0);
        x.link(0, 1, 4);
        x.link(0, 2, 5);
        Due.is("can not through a shut door", x.can(0, 1), 0);
        x.door(0, 1);
        Due.is("can with the legs it has", x.can(0, 1), 1);
        Due.is("can not with shorter legs", x.can(0, 2), 0);
        Due.is("can not without strides to itself", x.can(0, 0), 0);
        Due.is("can no perch", x.can(0, 3), -1);
        Due.is("can no folk", x.can(1, 0), -1);
        Due.is("can folk -1", x.can(-1, 0), -1);
        Due.under(x, "bars if perch=1");
        Due.is("can not where it is barred", x.can(0, 1), 0);
    }

    /** Promise 13. */
    private static void terms() {
        LowerHalf x = new LowerHalf();
        Due.isWith(x, "hour 999", x.terms(0, 999), 0, 0);
        Due.isWith(x, "hour 0", x.terms(0, 0), 999, 0);
        Due.isWith(x, "snores 10", x.terms(1, 10), 1, 0);
        Due.isWith(x, "mood 9", x.terms(2, 9), 0, 0);
        Due.refused(x, "hour 1000", x.terms(0, 1000), -1);
        Due.refused(x, "hour -1", x.terms(0, -1), -1);
        Due.refused(x, "snores 11", x.terms(1, 11), -1);
        Due.refused(x, "mood 10", x.terms(2, 10), -1);
        Due.refused(x, "term 3", x.terms(3, 0), -1);
        Due.refused(x, "term -1", x.terms(-1, 0), -1);
        Due.is("hour", x.count(15), 0);
        Due.is("snores", x.count(16), 10);
        Due.is("mood", x.count(17), 9);
    }

    /** Promises 47 and 48. */
    private static void countsAndStatus() {
        LowerHalf x = new LowerHalf();
        x.perch(9, 0);
        x.folk(1, 0);
        x.pass();
        x.undo();
        x.undo();
        x.perch(0, 0);
        x.folk(2, 0);
        x.badger(0);
        x.thing(0, 1, 1);
        x.seen(0, 0);
        x.row();
        Due.law(x, "bars");
        Due.law(x, "x");
        for (int k = 0; k < 4; k++) {
            x.badger(0);
        }
        Due.tell(x, "abc");
        int[] due = {1, 1, 3, 1, 0, 1, 1, 0, 3, 1, 1, 1, 2, 2, -1, 0, 1, 0};
        for (int what = 0; what < due.length; what++) {
            Due.is("count " + what, x.count(what), due[what]);
        }
        Due.is("count 18", x.count(18), -1);
        Due.is("count -1", x.count(-1), -1);
        x.force(0);
        Due.is("count 14", x.count(14), 0);
        Due.is("none is no refusal", x.force(-1), 0);
        Due.isWith(x, "force that was none", x.force(0), -1, 0);
        Due.refused(x, "force 1", x.force(1), -2);
        x.at(99, 0);
        x.end(999);
        x.look(7);
        x.compare(9, 9);
        Due.is("calls that are not listed leave the status", x.status(), -2);
        Due.is("and the counts", x.count(9), 1);
        x.pass();
        Due.is("caught", x.count(4), 1);
        Due.is("can be undone", x.count(7), 1);
    }

    public static void main(String[] args) {
        newObject();
        perches();
        folk();
        badgers();
        things();
        links();
        roomsAndCan();
        terms();
        countsAndStatus();
        Due.is("NONE", LowerHalf.NONE, -1);
        Due.end("HouseTest");
    }
}
