/** Promises 14 to 21: the tape, rows, where texts fault and orders stop. */
public final class TapeTest {
    /** Promises 14 and 15. */
    private static void tape() {
        LowerHalf x = new LowerHalf();
        for (int k = 1; k <= 20; k++) {
            Due.is("feed", x.feed(0, 0, 0, 0, 0), 20 * k);
        }
        Due.is("feed beyond 400", x.feed(0, 0, 0, 0, 0), -1);
        Due.is("and nothing is there", x.count(8), 400);
        Due.is("end 381", x.end(381), 381);
        Due.is("feed beyond 400 by one", x.feed(0, 0, 0, 0, 0), -1);
        Due.is("end 380", x.end(380), 380);
        Due.is("feed to 400", x.feed(0, 0, 0, 0, 0), 400);
        Due.is("end beyond", x.end(401), -1);
        Due.is("end -1", x.end(-1), -1);
        Due.is("end leaves the tape then", x.count(8), 400);
        Due.is("end 0", x.end(0), 0);
        Due.is("end 1 of none", x.end(1), -1);
        Due.is("no refusal", x.count(9), 0);
    }

    /** Promise 14: the highest byte first; promise 16. */
    private static void bytes() {
        LowerHalf x = new LowerHalf();
        for (int k = 0; k < 5; k++) {
            x.perch(0, 0);
        }
        x.feed(0x00010200, 0x03040104, 0x05020306, 0x03040700, 0x04080000);
        x.end(18);
        Due.is("row", x.row(), 6);
        int[][] due = {{0, 1, 2}, {0, 3, 4}, {1, 4, 5}, {2, 3, 6}, {3, 4, 7}, {0, 4, 8}};
        for (int[] d : due) {
            Due.is("long " + d[0] + " " + d[1], x.at(d[0], 3 + d[1]), d[2]);
        }
    }

    /** Promises 16 and 17. */
    private static void rows() {
        LowerHalf x = new LowerHalf();
        x.perch(0, 0);
        x.perch(0, 0);
        x.perch(0, 0);
        x.door(0, 1);
        Due.refused(x, "an empty row", x.row(), -6);
        Due.is("no scratches ahead of any", x.scratches(), 0);
        Due.isWith(x, "row", Due.row(x, 0, 1, 5, 1, 2, 10, 2, 2, 1, 0, 3, 1, 255, 0, 1, 0, 1), 1, 0);
        Due.is("scratches", x.scratches(), 5);
        Due.is("the tape is empty", x.count(8), 0);
        Due.is("long", x.at(1, 3), 5);
        Due.is("a row leaves what can be undone", x.count(7), 1);
        Due.refused(x, "an empty row again", x.row(), -6);
        Due.is("scratches of the row that was not refused", x.scratches(), 5);
        Due.isWith(x, "a stride that is none is told", Due.row(x, 1, 0, 0), 1, 0);
        Due.is("long none", x.at(0, 4), 0);
        Due.is("no scratch", x.scratches(), 0);
        Due.isWith(x, "scratches alone", Due.row(x, 0), 0, 0);
        Due.is("one scratch", x.scratches(), 1);
        Due.isWith(x, "the later one stands", Due.row(x, 0, 2, 3, 2, 0, 7), 2, 0);
        Due.is("long 7", x.at(0, 5), 7);
    }

    /** Promises 18 and 20. */
    private static void laws() {
        LowerHalf x = new LowerHalf();
        x.door(0, 1);
        Due.refused(x, "an empty law", x.law(), -6);
        Due.is("its fault", x.fault(), 0);
        Due.refused(x, "blanks alone", Due.law(x, "   "), -6);
        Due.is("their fault", x.fault(), 3);
        for (int k = 0; k < 6; k++) {
            Due.isWith(x, "law", Due.law(x, "theirs " + k), k, 0);
            Due.is("no fault", x.fault(), -1);
        }
        Due.refused(x, "blanks ahead of -5", Due.orders(x, "  "), -6);
        Due.refused(x, "the 7th law", Due.law(x, "nothing"), -5);
        Due.is("the tape is empty", x.count(8), 0);
        Due.is("fault of the latest that was read", x.fault(), 2);
        Due.is("laws", x.count(6), 6);
        Due.is("a law leaves what can be undone", x.count(7), 1);
        Due.is("compare", x.compare(5, 0), 5);
    }

    /** Promises 19 to 21. */
    private static void orders() {
        LowerHalf x = Due.ladder(0, 0, 0);
        x.thing(0, 1, 1);
        x.folk(1, 2);
        Due.isWith(x, "orders", Due.orders(x, "stride 0 to 1; put 0 on 2; pass times 3; door 0 by 1"), 6, 0);
        Due.is("stopped", x.stopped(), -1);
        Due.is("on", x.of(0, 1), 1);
        Due.is("at", x.has(0, 0), 2);
        Due.is("hour", x.count(15), 3);
        Due.is("door", x.room(1, 1), 1);
        Due.is("can be undone", x.count(7), 6);
        Due.refused(x, "one that can't be", Due.orders(x, "pass times 20; door 3 by 2; stride 0 to 1"), -3);
        Due.is("stopped at 2", x.stopped(), 2);
        Due.is("no fault", x.fault(), -1);
        Due.is("hour as it was", x.count(15), 3);
        Due.is("door as it was", x.room(3, 1), 0);
        Due.is("undone as it was", x.count(7), 6);
        Due.is("its refusals are no calls", x.count(11), 1);
        Due.is("undo the latest", x.undo(), 2);
        Due.refused(x, "faulty orders", Due.orders(x, "pass pass"), -6);
        Due.is("fault", x.fault(), 5);
        Due.is("stopped of faulty orders", x.stopped(), -1);
        Due.isWith(x, "nothing to do", Due.orders(x, "pass if 1=0"), 0, 0);
        Due.refused(x, "put where it is", Due.orders(x, "put 0 on 2"), -3);
        Due.is("stopped at 0", x.stopped(), 0);
        Due.refused(x, "stride of no folk", Due.orders(x, "stride 3 to 1"), -3);
        Due.refused(x, "put of no thing", Due.orders(x, "put 3 on 1"), -3);
        Due.refused(x, "a door of one room", Due.orders(x, "door 1 by 1"), -3);
        Due.refused(x, "a broken sum", Due.orders(x, "pass; put 0 on 1/0"), -3);
        Due.is("stopped at 1", x.stopped(), 1);
        x.terms(0, 998);
        Due.refused(x, "beyond the last hour", Due.orders(x, "pass times 2"), -3);
        Due.is("hour 998", x.count(15), 998);
        Due.isWith(x, "to the last hour", Due.orders(x, "pass times 2 if hour<999"), 1, 0);
        Due.isWith(x, "a law leaves where orders stopped", Due.law(x, "bars"), 0, 0);
        Due.is("stopped none", x.stopped(), -1);
    }

    public static void main(String[] args) {
        tape();
        bytes();
        rows();
        laws();
        orders();
        Due.end("TapeTest");
    }
}
