/** Block II and promises 14 to 22, sentence by sentence: the tape, rows, and where texts begin to fault. */
public final class EdgesTextTest {
    private static final String FULL_TAPE = feeds(20);
    private static final String SIX_LAWS = "law'bars'=0 law'bars'=1 law'bars'=2 law'bars'=3 law'bars'=4 law'bars'=5 ";

    private static String feeds(int many) {
        StringBuilder calls = new StringBuilder();
        for (int k = 1; k <= many; k++) {
            calls.append("feed(0, 0, 0, 0, 0)=").append(20 * k).append(' ');
        }
        return calls.toString();
    }

    /** A text that faults at a place, and one that ends a byte ahead of it. */
    private static void faults(String language, String words, Object... textsAndPlaces) {
        int promise = language.equals("law") ? 18 : 19;
        for (int k = 0; k + 1 < textsAndPlaces.length; k += 2) {
            Runs.run(promise, words, language + "'" + textsAndPlaces[k] + "'!-6 fault()=" + textsAndPlaces[k + 1] + " count(8)=0 count(6)=0",
                "stopped()=-1");
        }
    }

    private static void isLaw(String words, String... texts) {
        for (String text : texts) {
            Runs.run(18, words, "law'" + text + "'=0 fault()=-1 count(8)=0 count(6)=1");
        }
    }

    /** Orders that are read; they run so many. */
    private static void isOrders(String words, int run, String... texts) {
        for (String text : texts) {
            Runs.run(19, words, "orders'" + text + "'=" + run + " fault()=-1 stopped()=-1 count(8)=0");
        }
    }

    private static void theirs(String words, String sum, int high) {
        Runs.run(18, words, "law'theirs 7; theirs " + sum + "'=0 force(0)=-1 room(3, 0)=" + high);
    }

    private static void so(String words, String test, boolean isSo) {
        Runs.run(18, words, "law'theirs 7; theirs 1 if " + test + "'=0 force(0)=-1 room(3, 0)=" + (isSo ? 1 : 7));
        Runs.run(19, words, "orders'pass if " + test + "'=" + (isSo ? 1 : 0) + " count(15)=" + (isSo ? 1 : 0));
    }

    private static void promise14() {
        Runs.run(14, "four bytes of each number, the highest first", Runs.perches(5),
            "feed(0x00010200, 0x03040104, 0x05020306, 0x03040700, 0x04080000)=20 end(18)=18 row()=6",
            "at(0, 4)=2 at(0, 6)=4 at(1, 7)=5 at(2, 6)=6 at(3, 7)=7 at(0, 7)=8 at(0, 5)=0");
        Runs.run(14, "numbers below 0 are bytes, too", "feed(-1, MIN, MAX, -1, -1)=20 orders()!-6 fault()=0",
            Runs.perches(2), "feed(0x00010680, 0, 0, 0, 0)=20 end(4)=4 row()=1 scratches()=1 at(0, 4)=6",
            "feed(0x80010000, 0x0100ff00, 0x01000000, 0, 0)=20 end(9)=9 row()=1 scratches()=2 at(0, 4)=0");
        Runs.run(14, "how many it has, 400 at most; none beyond, and it stays as it is", FULL_TAPE, "count(8)=400 feed(1, 1, 1, 1, 1)=-1",
            "count(8)=400",
            "end(381)=381 feed(1, 1, 1, 1, 1)=-1 count(8)=381 end(380)=380 feed(1, 1, 1, 1, 1)=400 count(8)=400 feed(1, 1, 1, 1, 1)=-1");
        Runs.run(14, "they come behind the tape", Runs.perches(3), "feed(0x00010200, 0, 0, 0, 0)=20 end(3)=3 feed(0x01020400, 0, 0, 0, 0)=23",
            "end(6)=6 row()=2",
            "at(0, 4)=2 at(1, 5)=4");
        Runs.run(14, "it leaves the rest", Runs.perches(1), "door(0, 1)=1 feed(1, 2, 3, 4, 5)=20 count(7)=1 perch(6, 0)!-1",
            FULL_TAPE.substring(feeds(1).length()),
            "feed(1, 2, 3, 4, 5)=-1 count(0)=1");
    }

    private static void promise15() {
        Runs.run(15, "none if it has not so many, or n is below 0", "end(0)=0 end(1)=-1 end(-1)=-1 feed(0, 0, 0, 0, 0)=20 end(21)=-1 end(20)=20",
            "end(-1)=-1 end(MIN)=-1",
            "end(MAX)=-1 count(8)=20 end(19)=19 end(20)=-1 count(8)=19 end(0)=0 count(8)=0");
        Runs.run(15, "of 400 bytes", FULL_TAPE, "end(401)=-1 end(400)=400 end(399)=399 end(400)=-1");
        Runs.run(15, "the first n bytes alone", Runs.perches(3), "tape'pass?'=5 end(4)=4 orders()=1 tape'passx'=5 end(5)=5 orders()!-6 fault()=0");
        Runs.run(15, "cut bytes are none of a word, a number", "tape'passx'=5 end(4)=4 orders()=1 tape'pass times 20'=13 end(12)=12 orders()=2",
            "count(15)=3");
        Runs.run(15, "cut bytes do not come back", "tape'passx'=5 end(4)=4 feed(0x20202020, 0x20202020, 0x20202020, 0x20202020, 0x20202020)=24",
            "orders()=1");
    }

    private static void promise16and17() {
        Runs.run(16, "-6: the tape is empty", "row()!-6 count(8)=0", feeds(1), "end(0)=0 row()!-6");
        Runs.run(16, "the bytes by threes: within the last the tape ends: a scratch", Runs.perches(3),
            "row'0'=0 scratches()=1 row'0 1'=0 scratches()=1 at(0, 4)=0 row'0 1 5'=1 scratches()=0 at(0, 4)=5 row'1 2 5 0'=1 scratches()=1",
            "row'0 2 6 0 1'=1 scratches()=1 at(0, 5)=6 at(0, 4)=5 row'0 1 1 0 1 2'=2 scratches()=0 at(0, 4)=2");
        Runs.run(16, "the tape is empty then", Runs.perches(2), "row'0 1 5'=1 count(8)=0 row'7'=0 count(8)=0 row()!-6 count(8)=0");
        Runs.run(16, "long 0 .. 9, 0 none: told, too", Runs.perches(2), "row'0 1 9'=1 scratches()=0 at(0, 4)=9 row'0 1 10'=0 scratches()=1 at(0,",
            "4)=9",
            "row'1 0 0'=1 scratches()=0 at(0, 4)=0 row'0 1 0'=1 scratches()=0 row'0 1 255'=0 scratches()=1 row'0 1 128'=0 scratches()=1 at(1, 3)=0");
        Runs.run(16, "two perches that are there", Runs.perches(2), "row'0 2 1'=0 scratches()=1 row'2 0 1'=0 scratches()=1 row'0 255 1'=0",
            "scratches()=1",
            "row'255 0 1'=0 scratches()=1 row'1 0 1'=1 scratches()=0 at(0, 4)=1");
        Runs.run(16, "perch 9 is the last", Runs.perches(10), "row'9 8 2 9 10 2 10 9 2'=1 scratches()=2 at(8, 12)=2");
        Runs.run(16, "one alone is a scratch", Runs.perches(2), "row'0 0 1 1 1 0'=0 scratches()=2 at(0, 3)=0");
        Runs.run(16, "a scratch is nothing: those behind it are told", Runs.perches(3), "row'9 9 9 0 1 3 0 1 10 1 2 4'=2 scratches()=2 at(0, 4)=3",
            "at(1, 5)=4");
        Runs.run(16, "the later one of the same perches stands", Runs.perches(2), "row'0 1 3 1 0 8'=2 at(0, 4)=8 row'0 1 3 1 0 0'=2 at(0, 4)=0");
        Runs.run(16, "400 bytes: 133 threes and a byte", FULL_TAPE, "row()=0 scratches()=134 count(8)=0");
        Runs.run(16, "399 bytes: 133 threes", FULL_TAPE, "end(399)=399 row()=0 scratches()=133");
        Runs.run(16, "it leaves what can be undone", Runs.perches(2), "folk(1, 0)=0 link(0, 1, 1)=0 stride(0, 1)=0 row'0 1 0'=1 count(7)=1 row()!-6",
            "count(7)=1 undo()=0 of(0, 1)=0");
        Runs.run(17, "0 ahead of any; that of the latest row that was not refused", "scratches()=0 row()!-6 scratches()=0 row'1'=0 scratches()=1",
            "row()!-6 scratches()=1",
            "row'1 1 1 1 1 1 1'=0 scratches()=3 law'bars'=0 orders'pass'=1 scratches()=3", Runs.perches(2), "row'0 1 1'=1 scratches()=0");
    }

    private static void promise18() {
        Runs.run(18, "its number: 6 at most, -5", SIX_LAWS, "law'bars'!-5 count(6)=6 count(8)=0 fault()=-1");
        Runs.run(18, "-5 ahead of reading it: faulty, blank, no text at all; fault stays; the tape is empty then, too",
            "law'x'!-6 fault()=0", SIX_LAWS, "fault()=-1 law'bars x'!-5 fault()=-1 count(8)=0 law' '!-5 fault()=-1 count(8)=0 law()!-5 fault()=-1",
            "orders'pass x'!-6 fault()=5 law'bars'!-5 fault()=5 law'x'!-5 fault()=5 count(6)=6");
        Runs.run(18, "-6: no bytes, blanks alone: fault at the end", "law()!-6 fault()=0 law' '!-6 fault()=1 law'      '!-6 fault()=6 count(6)=0",
            "count(8)=0");
        faults("law", "400 blanks: fault at the end", " ".repeat(400), 400, " ".repeat(399) + "x", 399, " ".repeat(400 - 6) + "theirs", 400);
        isLaw("a text's longest: 400 bytes", " ".repeat(396) + "bars", "bars" + " ".repeat(396), "theirs" + " ".repeat(393) + "1",
            "theirs " + "0".repeat(390) + "500", "bars if " + "not ".repeat(97) + "1=1 ");
        Runs.run(18, "one byte more can't be fed", FULL_TAPE, "feed(0, 0, 0, 0, 0)=-1 count(8)=400 law()!-6 fault()=0");
        Runs.run(18, "a refused law leaves the laws; the tape is empty then", "law'theirs 4'=0 law'theirs'!-6 fault()=6 count(6)=1 count(8)=0",
            "law'theirs 5'=1 compare(0, 0)=4 compare(1, 0)=5");
        Runs.run(18, "a law is not in force by itself", "law'theirs 9'=0 count(14)=-1 room(0, 0)=2");
        Runs.run(18, "it leaves what can be undone", "pass()=0 door(0, 1)=1 law'bars'=0 law'x'!-6 count(7)=2 undo()=2 undo()=3 count(15)=0");
        Runs.run(18, "it leaves the law in force", "law'theirs 9'=0 force(0)=-1 law'theirs 8'=1 count(14)=0 room(0, 0)=9");
    }

    private static void clauses() {
        isLaw("12 clauses at most", "bars" + ";bars".repeat(11));
        faults("law", "fault at the 13th's first token", "bars" + ";bars".repeat(12), 60, "bars" + ";bars".repeat(11) + " ;  bars", 63,
            "bars" + ";bars".repeat(11) + "; x", 61, "bars" + ";bars".repeat(11) + ";", 60, "bars" + ";bars".repeat(11) + ";  ", 62,
            "bars" + ";bars".repeat(11) + ";;", 60);
        isOrders("12 clauses at most", 12, "pass" + ";pass".repeat(11));
        faults("orders", "fault at the 13th's first token", "pass" + ";pass".repeat(12), 60, "pass" + ";pass".repeat(11) + ";  1", 62,
            "pass" + ";pass".repeat(11) + ";", 60);
        faults("law", "clauses with ; between, none empty", ";", 0, "bars;", 5, "bars; ", 6, "bars;;bars", 5, "bars bars", 5, ";bars", 0,
            "bars,bars", 4);
        faults("orders", "clauses with ; between, none empty", ";", 0, "pass;", 5, "pass; ", 6, "pass;;pass", 5, "pass pass", 5, ";pass", 0,
            "pass.", 4);
        faults("law", "no clause of orders", "pass", 0, "stride 0 to 1", 0, "put 0 on 1", 0, "door 0 by 1", 0, "bars; pass", 6, "bars times 2", 5,
            "theirs 1 times 2", 9);
        faults("orders", "no clause of laws", "bars", 0, "theirs 1", 0, "goes 1", 0, "pass; bars", 6);
        faults("law", "theirs, goes with a sum, bars without one", "theirs", 6, "goes", 4, "goes ", 5, "theirs if 1=1", 7, "goes;", 4, "bars 1", 5,
            "bars room", 5);
        faults("orders", "stride SUM to SUM, put SUM on SUM, door SUM by SUM, pass", "stride", 6, "stride 0", 8, "stride 0 to", 11,
            "stride 0 on 1", 9, "stride 0 1", 9,
            "stride to 1", 7, "stride 0 to 1 to 2", 14, "put 0 to 1", 6, "put 0 on", 8, "put on 1", 8, "put 0 on on", 11, "door 0 to 1", 7,
            "door 0 by", 9, "door by 1", 5, "pass 1", 5, "pass by 1", 5);
        faults("law", "if TEST, once, last", "bars if", 7, "bars if 1=1 if 1=1", 12, "if 1=1", 0, "theirs 1 if", 11, "bars if ;", 8);
        faults("orders", "times ahead of if, each once", "pass if 1=1 times 2", 12, "pass times 2 times 2", 13, "pass if 1=1 if 1=1", 12,
            "pass times", 10, "pass times if 1=1", 11);
    }

    private static void tokens() {
        isLaw("longest rows of letters, of digits, single other bytes, any blanks between", "theirs1", "theirs1if1=1", "  theirs   1  +  1  ",
            "theirs[1]", "bars if(1=1)and(1=1)",
            "bars if 1=1and 1=1or 2=2", "bars;bars", "bars  ;  bars");
        faults("law", "a longer row of letters is another word", "theirsroom", 0, "theirs1 if1 =1x", 14, "barsif 1=1", 0, "bars ifnot 1=1", 5,
            "theirs roomx", 7, "their 1", 0, "hheirs 1", 0, "theirsx 1", 0, "barsa", 0, "barsz", 0, "bars z", 5);
        faults("law", "a longer row of digits is another number", "theirs 10000", 7, "theirs 1 0", 9, "theirs 99999999999999999999999999", 7);
        faults("law", "capitals, other bytes are tokens of their own", "Bars", 0, "baRs", 0, "bars_", 4, "bars\t", 4, "bars\n", 4, "bars\u00a0", 4,
            "bars\u00ff", 4, "bars\0", 4, "b ars", 0, "theirs 1\u00e9", 8,
            "theirs 1`", 8, "theirs 1{", 8, "theirs 1:", 8, "theirs 1/", 9, "theirs 1!", 8, "theirs \u00b1", 7);
        isLaw("numbers to 1,000, by their value", "theirs 0", "theirs 1000", "theirs 0001000", "theirs 00000000000000000000001");
        faults("law", "numbers to 1,000", "theirs 1001", 7, "theirs 0001001", 7, "theirs 1+1001", 9, "bars if 1001=1", 8, "bars if 1=1001", 10,
            "theirs 4294967296", 7, "theirs 18446744073709551616", 7);
        isOrders("numbers to 1,000", 1, "pass if 1000>999", "pass if 0001=1");
        faults("orders", "numbers to 1,000", "pass if 1001>1", 8, "stride 1001 to 1", 7, "stride 1 to 1001", 12, "put 1 on 1001", 9,
            "door 1 by 1001", 10);
        faults("law", "fault at the end: the text's length", "theirs ", 7, "theirs    ", 10, "theirs 1 + ", 11, "bars if 1 = ", 12,
            "bars if (1=1 ", 13, "theirs [1 ", 10);
    }

    private static void partsAndBrackets() {
        isLaw("50 parts, numbers and words, brackets none", "theirs 1" + "+1".repeat(49), "theirs room" + "+room".repeat(49),
            "theirs 1" + "+room".repeat(49),
            "theirs [1]" + "+[1]".repeat(49), "theirs 1" + "+1".repeat(24) + " if 1" + "+1".repeat(22) + "=1+1",
            "theirs 1" + "+1".repeat(49) + "; bars",
            "theirs 1" + "+1".repeat(24) + "; goes 1" + "+1".repeat(24) + ";bars");
        faults("law", "fault at the 51st part", "theirs 1" + "+1".repeat(50), 107, "theirs room" + "+room".repeat(50), 257,
            "theirs 1" + "+1".repeat(49) + "+ x", 108,
            "theirs 1" + "+1".repeat(49) + "+[1]", 108, "theirs 1" + "+1".repeat(49) + "+1001", 107, "theirs 1" + "+1".repeat(49) + " if 1=1", 110,
            "theirs 1" + "+1".repeat(49) + ";goes 1", 112, "theirs 1" + "+1".repeat(24) + "; goes 1" + "+1".repeat(25), 113,
            "bars if 1" + "+1".repeat(49) + "=1", 108);
        isOrders("50 parts; F, B, T, TIMES aside", 1, "pass if on 0" + "+on 0".repeat(48) + "<1", "pass if room 0" + "+at 0".repeat(40) + "<1",
            "pass if 0" + "+0".repeat(48) + "=0",
            "pass times 1 if 1" + "-hour".repeat(48) + "=1");
        faults("orders", "fault at the 51st part", "pass if 1" + "+1".repeat(49) + "=1", 108, "stride 1" + "+1".repeat(48) + " to 1+1", 110,
            "pass if on 0" + "+on 0".repeat(49) + "=0", 258,
            "pass if 1=1" + " and 1=1".repeat(24) + " or on 0=1", 207);
        faults("law", "fault where the 51st part should be, whatever else stands there", "theirs 1" + "+1".repeat(49) + "+ if 1=1", 108,
            "theirs 1" + "+1".repeat(49) + "+;bars", 107, "theirs 1" + "+1".repeat(49) + "+)", 107, "theirs 1" + "+1".repeat(49) + "+", 107);
        faults("orders", "fault where the 51st part should be, whatever else stands there", "put 1" + "+1".repeat(49) + "+on 0 on 1", 104,
            "put 1" + "+1".repeat(49) + " on on 0", 107, "pass if 1" + "+1".repeat(48) + "<1 and if", 112);
        isLaw("8 brackets within one another, any side by side", "theirs " + "[".repeat(8) + "1" + "]".repeat(8),
            "bars if " + "(".repeat(8) + "1=1" + ")".repeat(8),
            "bars if ((((([[[1]]]=1)))))", "bars if (((((((1=[1])))))))", "theirs [1]" + "+[1]".repeat(20), "bars if (1=1)" + " or (1=1)".repeat(20),
            "theirs [[[[[[[[1]]]]]]]]+[[[[[[[[1]]]]]]]] if ((((((((1=1))))))))");
        faults("law", "fault at the 9th", "theirs " + "[".repeat(9) + "1" + "]".repeat(9), 15, "bars if " + "(".repeat(9) + "1=1" + ")".repeat(9), 16,
            "bars if ((((([[[[1]]]]=1)))))", 16, "bars if ((((((((1=[1]))))))))", 18, "bars if " + "(".repeat(8) + "[1]=1" + ")".repeat(8), 16,
            "theirs [[[[[[[[1]+[[1]", 19,
            "theirs 1+[[[[[[[[1+[1", 19);
        isOrders("8 brackets within one another", 1, "pass if " + "(".repeat(8) + "1=1" + ")".repeat(8),
            "pass if " + "[".repeat(8) + "1" + "]".repeat(8) + "=1", "door " + "[".repeat(8) + "1" + "]".repeat(8) + " by 2",
            "door 1 by " + "[".repeat(8) + "2" + "]".repeat(8),
            "door " + "[".repeat(8) + "1" + "]".repeat(8) + " by " + "[".repeat(8) + "2" + "]".repeat(8),
            "pass if 1=" + "[".repeat(8) + "1" + "]".repeat(8));
        faults("orders", "fault at the 9th", "pass if " + "(".repeat(9) + "1=1" + ")".repeat(9), 16,
            "pass if " + "[".repeat(9) + "1" + "]".repeat(9) + "=1", 16, "pass if ((((([[[[1]]]]=1)))))", 16,
            "door " + "[".repeat(9) + "1" + "]".repeat(9) + " by 2", 13, "door 1 by " + "[".repeat(9) + "2" + "]".repeat(9), 18,
            "pass if 1=" + "[".repeat(9) + "1" + "]".repeat(9), 18);
        faults("law", "brackets of their kind, closed", "theirs (1)", 7, "theirs [1)", 9, "theirs [1", 9, "theirs 1]", 8, "theirs []", 8,
            "bars if [1=1]", 10, "bars if (1)=1", 10, "bars if (1=1", 12, "bars if 1=1)", 11,
            "bars if ()", 9, "bars if (1=1]", 12, "theirs [1]]", 10);
    }

    /** What is at most in a text is so in each, however many there were on the same object. */
    private static void textsOneByOne() {
        String fifty = "pass if 1" + "+1".repeat(48) + "=49";
        StringBuilder calls = new StringBuilder();
        for (int k = 0; k < 20; k++) {
            calls.append("orders'").append(fifty).append("'=1 ");
        }
        Runs.run(19, "50 parts in each text", calls.toString(), "orders'" + fifty + "+1'!-6 fault()=109 orders'" + fifty + "'=1");
        Runs.run(18, "50 parts in each text", "law'theirs 1" + "+1".repeat(49) + "'=0 law'theirs 2" + "+1".repeat(50) + "'!-6 fault()=107 law'theirs",
            "3" + "+1".repeat(49) + "'=1 force(1)=-1 room(0, 0)=10");
        Runs.run(18, "12 clauses in each text", "law'bars" + ";bars".repeat(11) + "'=0 law'bars" + ";bars".repeat(12) + "'!-6 fault()=60 law'theirs",
            "5" + ";bars".repeat(11) + "'=1 force(1)=-1 room(0, 0)=5");
        Runs.run(18, "8 brackets in each text", "law'theirs [[[[[[[[4]]]]]]]]'=0 law'theirs [[[[[[[[['!-6 fault()=15 law'theirs [[[[[[[[5]]]]]]]]'=1",
            "compare(0, 0)=4 compare(1, 0)=5");
        Runs.run(18, "a law stays as it was read, whatever is read behind it", "law'theirs 4 if room=2; theirs 6'=0 law'theirs 7;theirs 8 if",
            "room=1'=1 orders'pass times 3'=3 law'x'!-6 compare(0, 0)=6 compare(0, 2)=6 compare(1, 1)=8 compare(1, 0)=7");
    }

    private static void sumsAndTests() {
        theirs("a sum to 1,000,000,000, the nearest", "1000*1000*1000", 10);
        theirs("a sum beyond it is broken", "1000*1000*1000+1", 7);
        theirs("a sum to 1,000,000,000 below 0", "0-1000*1000*1000", 0);
        theirs("a sum beyond it below 0 is broken", "0-1000*1000*1000-1", 7);
        theirs("a product beyond it is broken", "[1000+1]*1000*1000", 7);
        theirs("a product to it", "[0-1]*1000*1000*1000", 0);
        theirs("a product beyond it below 0 is broken", "[0-1000-1]*1000*1000", 7);
        theirs("beyond it on the way", "1000*1000*1000+1-1", 7);
        theirs("beyond it in a bracket", "0*[1000*1000*1000+1]", 7);
        theirs("no product wraps around", "1000*1000*1000*1000*1000*1000*1000*1000*0", 7);
        theirs("divided by 0", "1/0", 7);
        theirs("what is left of 0", "1%0", 7);
        theirs("0 divided by 0", "0/[1-1]", 7);
        theirs("0 divided", "0/1", 0);
        theirs("0 is left", "0%1", 0);
        theirs("cut towards 0", "7/2", 3);
        theirs("cut towards 0 below 0", "[0-7]/2+6", 3);
        theirs("cut towards 0 by one below 0", "7/[0-2]+6", 3);
        theirs("cut towards 0, both below 0", "[0-7]/[0-2]", 3);
        theirs("what is left then", "7%4", 3);
        theirs("what is left then below 0", "[0-7]%4+6", 3);
        theirs("what is left then by one below 0", "7%[0-4]", 3);
        theirs("what is left then, both below 0", "[0-7]%[0-4]+6", 3);
        theirs("terms ahead of sums", "2+3*2", 8);
        theirs("from the left", "9-4-3", 2);
        theirs("terms from the left", "100/10/5", 2);
        theirs("% and * from the left", "7%4*2", 6);
        theirs("brackets first", "[2+3]*2", 10);
        theirs("brackets first of those behind", "9-[4-3]", 8);
        so("<", "1<2", true);
        so("< of as many", "2<2", false);
        so(">", "2>1", true);
        so("> of as many", "2>2", false);
        so("=", "2=2", true);
        so("= of others", "2=1", false);
        so("below 0", "0-1<0", true);
        so("not", "not 1=2", true);
        so("not of what is so", "not 1=1", false);
        so("not twice", "not not 1=1", true);
        so("not of a bracket", "not (1=2 or 1=1)", false);
        so("not is of its PLAIN alone: or", "not 1=1 or 1=1", true);
        so("not is of its PLAIN alone: and", "not 1=2 and 1=2", false);
        so("and binds ahead of or", "1=1 or 1=1 and 1=2", true);
        so("and binds ahead of or behind it", "1=2 and 1=1 or 1=1", true);
        so("brackets", "(1=1 or 1=1) and 1=2", false);
        so("a sum on both sides", "1+1=4-2", true);
        so("broken", "1/0=1", false);
        so("broken on the right side", "1=1/0", false);
        so("not of what is broken is broken", "not 1/0=1", false);
        so("beyond 1,000,000,000 is broken in a test", "1000*1000*1000+1>0", false);
        so("1,000,000,000 is not", "1000*1000*1000+0>0", true);
        so("or asks no more behind what is so", "1=1 or 1/0=1", true);
        so("or asks behind what is not so", "1=2 or 1/0=1", false);
        so("or whose first is broken", "1/0=1 or 1=1", false);
        so("and asks no more behind what is not so", "not (1=2 and 1/0=1)", true);
        so("and asks behind what is so", "not (1=1 and 1/0=1)", false);
        so("and whose first is broken", "not (1/0=1 and 1=2)", false);
        so("or of three: asked until one is so", "1=2 or 1=1 or 1/0=1", true);
        so("and of three: asked until one is not so", "not (1=1 and 1=2 and 1/0=1)", true);
        so("or behind and that was not so", "1=2 and 1/0=1 or 1=1", true);
        so("a bracket that is broken breaks all", "(1/0=1 or 1=1) or 1=1", false);
        so("a bracket that is not asked", "1=1 or (1/0=1 and 1=1)", true);
    }

    private static void wordsOfLaws() {
        faults("law", "words of orders, of none", "theirs done", 7, "theirs latest", 7, "theirs caught", 7, "theirs on 0", 7, "theirs at 0", 7,
            "theirs x", 7, "theirs if", 7, "goes room 0", 10);
        for (String word : new String[] {"badger", "folk", "legs", "perch", "high"}) {
            Runs.run(18, word + " is -1, theirs is asked of a room", Runs.ladder(5, 6), "badger(0)=0 law'theirs " + word + "+5'=0 force(0)=-1",
                "room(0, 0)=4 room(5, 0)=4");
        }
        for (String word : new String[] {"folk", "legs", "perch", "high"}) {
            Runs.run(18, word + " is -1, goes is asked of a badger", Runs.ladder(5, 6), "badger(0)=0 badger(0)=1 door(0, 4)=1",
                "law'goes " + word + "+5'=0 force(0)=-1 sow(0, 1)=4 sow(1, 1)=4");
        }
        Runs.run(18, "goes: room, badger, hour, clock, mood", "badger(1)=0 badger(4)=1 door(1, 4)=1 terms(0, 30)=0 terms(2, 9)=0",
            "law'goes 4 if room=1 and badger=0 and hour=30 and clock=6 and mood=9; goes 1 if room=4 and badger=1 and hour=30 and clock=6 and",
            "mood=9'=0 force(0)=-1 sow(0, 1)=4 sow(1, 1)=1");
        Runs.run(18, "theirs: room, hour, clock, mood", "terms(0, 30)=0 terms(2, 9)=0 law'theirs 10 if room=5 and hour=30 and clock=6 and mood=9'=0",
            "force(0)=-1 room(5, 0)=10 room(4, 0)=0");
        Runs.run(18, "bars: room, folk, legs, perch, high, badger -1, hour, clock, mood", "perch(1, 3)=0 perch(2, 4)=1 folk(7, 0)=0 folk(7, 0)=1",
            "link(0, 1, 7)=0 door(1, 2)=1 terms(0, 30)=0 terms(2, 9)=0",
            "law'bars if room=2 and folk=1 and legs=7 and perch=1 and high=4 and badger=0-1 and hour=30 and clock=6 and mood=9'=0 force(0)=-1 can(0,",
            "1)=1 can(1, 1)=0");
        Runs.run(18, "clock: hour modulo 24", "law'theirs clock'=0 force(0)=-1 terms(0, 9)=0 room(0, 0)=9 terms(0, 23)=9 room(0, 0)=10 terms(0,",
            "24)=23 room(0, 0)=0 terms(0, 25)=24 room(0, 0)=1 terms(0, 984)=25 room(0, 0)=0");
    }

    private static void promise19() {
        Runs.run(19, "-6: no bytes, blanks alone: fault at the end", "orders()!-6 fault()=0 orders' '!-6 fault()=1 orders'     '!-6 fault()=5",
            "count(8)=0");
        faults("orders", "400 blanks: fault at the end", " ".repeat(400), 400, " ".repeat(399) + "x", 399, " ".repeat(396) + "door", 400);
        isOrders("a text's longest: 400 bytes", 1, " ".repeat(396) + "pass", "pass" + " ".repeat(396), "pass times " + "0".repeat(388) + "1");
        isOrders("times 1 .. 20", 1, "pass times 1", "pass times 01");
        isOrders("times 1 .. 20", 20, "pass times 20");
        isOrders("once without", 1, "pass");
        faults("orders", "times 1 .. 20, a number", "pass times 0", 11, "pass times 21", 11, "pass times 1001", 11, "pass times 2+1", 12,
            "pass times hour", 11, "pass times [1]", 11, "pass times", 10, "pass times;", 10);
        isOrders("F 0 .. 3, B 0 .. 2, T 0 .. 5", 1, "pass if on 0=on 3", "pass if room 0=room 2", "pass if at 0=at 5", "pass if on 003=0-1");
        faults("orders", "F 0 .. 3, B 0 .. 2, T 0 .. 5, a number each", "pass if on 4=1", 11, "pass if room 3=1", 13, "pass if at 6=1", 11,
            "pass if on=1", 10, "pass if room=1", 12, "pass if at=1", 10,
            "pass if on hour=1", 11, "pass if on [0]=1", 11, "pass if at 1001=1", 11, "pass if on", 10);
        faults("orders", "words of laws, of none", "pass if badger=1", 8, "pass if folk=1", 8, "pass if legs=1", 8, "pass if perch=1", 8,
            "pass if high=1", 8, "pass if mood=1", 8, "pass if x=1", 8, "pass if by=1", 8);
        String twelve = "pass times 20" + ";pass times 20".repeat(11);
        Runs.run(19, "how many were run: the most there can be", "orders'" + twelve + "'=240 count(15)=240 count(7)=16");
        Runs.run(19, "none was run: no refusal", "orders'pass if 1=2'=0 stopped()=-1 count(15)=0 orders'pass times 20 if 1/0=1'=0 count(15)=0");
        Runs.run(19, "clause by clause, each as often as times tell; each time its if is asked", "orders'pass times 9 if hour<4; door 0 by 1 times",
            "3; pass if hour=4'=8 count(15)=5 room(0, 1)=2");
        Runs.run(19, "done: how many were run in this text", "orders'pass if done=0; pass times 2 if done=1; pass if done=2; door 0 by 1 if",
            "done=3'=4 count(15)=3 orders'pass if done=0'=1");
        Runs.run(19, "latest: what the latest pass in this text told, -1 ahead of any", Runs.ladder(0), "badger(0)=0 pass()=1",
            "orders'door 0 by 1 if latest=0-1; pass if latest=0-1; door 0 by 2 if latest=1; pass if latest=1 and caught=2'=4 orders'pass if",
            "latest=0-1'=1");
        Runs.run(19, "hour, clock, caught as they are then", Runs.ladder(0), "badger(0)=0 terms(0, 23)=0 orders'pass if hour=23 and clock=23 and",
            "caught=0; pass if hour=24 and clock=0 and caught=1'=2");
        Runs.run(19, "on, room, at as they are then, -1 without such ones", Runs.ladder(0, 0), "badger(1)=0 thing(1, 0, 0)=0 door(1, 2)=1",
            "orders'stride 0 to 1 if on 0=0 and on 1=0-1; pass if on 0=1 and room 0=1 and room 1=0-1; put 0 on 0 if room 0=2 and at 0=1 and at",
            "1=0-1; pass if at 0=0'=4");
        Runs.run(19, "on 3, room 2, at 5 are the last of all that are there", Runs.perches(6), "folk(1, 0)=0 folk(1, 1)=1 folk(1, 2)=2 folk(1, 3)=3",
            "badger(1)=0 badger(2)=1 badger(3)=2",
            "thing(0, 0, 0)=0 thing(1, 0, 0)=1 thing(2, 0, 0)=2 thing(3, 0, 0)=3 thing(4, 0, 0)=4 thing(5, 0, 0)=5",
            "orders'pass if on 0=0 and on 1=1 and on 2=2 and on 3=3 and room 0=1 and room 1=2 and room 2=3 and at 0=0 and at 1=1 and at 2=2 and at",
            "3=3 and at 4=4 and at 5=5'=1");
        Runs.run(19, "sums are asked each time", Runs.ladder(0, 0, 0, 0, 0), "orders'stride 0 to on 0+1 times 4'=4 of(0, 1)=4");
        Runs.run(19, "what is not run is not asked for its sums", "orders'stride 1/0 to 9 if 1=2; put 9 on 1%0 if 1/0=1; door 1/0 by 1/0 if 1=2'=0");
        Runs.run(19, "it takes the laws as they are: laws are no orders", Runs.ladder(0, 0), "law'bars'=0 force(0)=-1 orders'stride 0 to 1'!-3",
            "force(-1)=0 orders'stride 0 to 1'=1");
        Runs.run(19, "-3: folk, a perch that is not there, without strides, where it is", Runs.ladder(0, 0, 0),
            "orders'stride 1 to 0'!-3 orders'stride 0-1 to 0'!-3 orders'stride 0 to 3'!-3 orders'stride 0 to 0-1'!-3",
            "orders'stride 0 to 2'!-3 orders'stride 0 to 0'!-3 orders'stride 1000*1000*1000 to 1'!-3 orders'stride 0 to 1'=1");
        Runs.run(19, "-3: a thing, a perch that is not there, where it is", Runs.ladder(0, 0), "thing(0, 0, 0)=0 orders'put 1 on 0'!-3 orders'put",
            "0-1 on 0'!-3 orders'put 0 on 2'!-3 orders'put 0 on 0-1'!-3 orders'put 0 on 0'!-3 orders'put 0 on 1'=1");
        Runs.run(19, "-3: rooms that are none, one alone", "orders'door 0 by 6'!-3 orders'door 6 by 0'!-3 orders'door 0-1 by 0'!-3 orders'door 0 by",
            "0-1'!-3 orders'door 2 by 2'!-3 orders'door 0 by 5'=1");
        Runs.run(19, "-3: the hour at its last", "terms(0, 998)=0 orders'pass times 2'!-3 count(15)=998 orders'pass'=1 count(15)=999 orders'pass'!-3",
            "orders'pass if hour<999'=0");
        Runs.run(19, "-3: a broken sum, the one or the other", "orders'door 1/0 by 1'!-3 orders'door 1 by 1/0'!-3 orders'door 1000*1000*1000+1 by",
            "1'!-3 orders'stride 1%0 to 0'!-3 orders'put 0 on 1/0'!-3");
        Runs.run(19, "-3: all is as it was ahead of it, what can be undone, too", Runs.ladder(0, 0),
            "thing(0, 0, 0)=0 badger(0)=0 door(0, 1)=1 pass()=1",
            "orders'stride 0 to 1; put 0 on 1; door 0 by 5; pass times 20; pass times 20; put 0 on 1'!-3 stopped()=5 of(0, 1)=0 has(0, 0)=0 room(0,",
            "1)=2 sow(0, 0)=1 count(4)=1 count(15)=1 count(7)=2",
            "undo()=3 sow(0, 0)=0 count(15)=0 undo()=2 undo()!-3");
        Runs.run(19, "-6 runs nothing", "orders'pass; pass; pas'!-6 fault()=12 count(15)=0 count(7)=0");
    }

    private static void promise20and21() {
        Runs.run(20, "of the latest law, orders that read a text, none without", "fault()=-1 law'x'!-6 fault()=0 law'bars'=0 fault()=-1 orders'pass",
            "x'!-6 fault()=5 orders'pass'=1 fault()=-1",
            "law'bars x'!-6 fault()=5 orders'door 0 by 0'!-3 fault()=-1 orders'x'!-6 fault()=0 row'1'=0 row()!-6 fault()=0 law()!-6 fault()=0");
        Runs.run(21, "none ahead of any, when it was done, or refused by -6", "stopped()=-1 orders'pass; door 0 by 0'!-3 stopped()=1 orders'pass'=1",
            "stopped()=-1 orders'door 0 by 0'!-3 stopped()=0 orders'x'!-6 stopped()=-1");
        Runs.run(21, "which clause, 0 on: the last of 12", "orders'pass" + ";pass".repeat(10) + ";door 0 by 0'!-3 stopped()=11");
        Runs.run(21, "which clause: those not run count, times do not", "orders'pass if 1=2; pass times 3; door 1 by 1'!-3 stopped()=2");
        Runs.run(21, "of the latest orders: laws, rows leave it", "orders'door 0 by 0'!-3 stopped()=0 law'bars'=0 law'x'!-6 row'1'=0 stopped()=0",
            "door(0, 0)!-1 stopped()=0");
    }

    private static void promise22() {
        Runs.run(22, "which was; none: -1", "law'bars'=0 law'bars'=1 force(0)=-1 force(1)=0 force(1)=1 force(-1)=1 force(-1)=-1 count(14)=-1");
        Runs.run(22, "-2: no such law", "force(0)!-2 force(-2)!-2 force(MIN)!-2 force(MAX)!-2 law'bars'=0 force(1)!-2 force(0)=-1 force(1)!-2",
            "force(-2)!-2 count(14)=0");
        Runs.run(22, "law 5 is the last, 6 none", SIX_LAWS, "force(6)!-2 force(5)=-1 count(14)=5");
        Runs.run(22, "none in force: no clause", "law'theirs 9'=0 force(0)=-1 room(0, 0)=9 force(-1)=0 room(0, 0)=2");
        Runs.run(22, "it leaves what can be undone", "law'bars'=0 pass()=0 force(0)=-1 force(9)!-2 count(7)=1 undo()=3 count(14)=0");
    }

    public static void main(String[] args) {
        promise14();
        promise15();
        promise16and17();
        promise18();
        clauses();
        tokens();
        partsAndBrackets();
        textsOneByOne();
        sumsAndTests();
        wordsOfLaws();
        promise19();
        promise20and21();
        promise22();
        Due.end("EdgesTextTest");
    }
}
