/** Block II: both languages, token by token, and what their texts tell. */
public final class LanguageTest {
    private static void faultOfLaw(String text, int place) {
        LowerHalf x = new LowerHalf();
        Due.is("law '" + text + "'", Due.law(x, text), -6);
        Due.is("fault of '" + text + "'", x.fault(), place);
        Due.is("tape behind '" + text + "'", x.count(8), 0);
    }

    private static void faultOfOrders(String text, int place) {
        LowerHalf x = new LowerHalf();
        Due.is("orders '" + text + "'", Due.orders(x, text), -6);
        Due.is("fault of '" + text + "'", x.fault(), place);
    }

    private static void goodLaw(String text) {
        LowerHalf x = new LowerHalf();
        Due.is("law '" + text + "'", Due.law(x, text), 0);
        Due.is("fault of '" + text + "'", x.fault(), -1);
    }

    /** Promises 18 and 20. */
    private static void lawFaults() {
        faultOfLaw("theirs", 6);
        faultOfLaw("theirs ", 7);
        faultOfLaw("their 1", 0);
        faultOfLaw("theirss 1", 0);
        faultOfLaw(" Theirs 1", 1);
        faultOfLaw("theirs 1001", 7);
        faultOfLaw("theirs 99999999999999999999", 7);
        faultOfLaw("theirs 1 2", 9);
        faultOfLaw("theirs 1 times 2", 9);
        faultOfLaw("theirs -1", 7);
        faultOfLaw("theirs 1+", 9);
        faultOfLaw("theirs 1++1", 9);
        faultOfLaw("theirs (1)", 7);
        faultOfLaw("theirs [1)", 9);
        faultOfLaw("theirs [1", 9);
        faultOfLaw("theirs 1]", 8);
        faultOfLaw("theirs done", 7);
        faultOfLaw("theirs 1 if", 11);
        faultOfLaw("theirs 1 if 1", 13);
        faultOfLaw("theirs 1 if 1=", 14);
        faultOfLaw("theirs 1 if 1=1=1", 15);
        faultOfLaw("theirs 1 if 1=1 if 1=1", 16);
        faultOfLaw("theirs 1 if (1)=1", 14);
        faultOfLaw("theirs 1 if [1=1]", 14);
        faultOfLaw("theirs 1 if (1=1", 16);
        faultOfLaw("theirs 1 if not", 15);
        faultOfLaw("theirs 1 if 1=1 and", 19);
        faultOfLaw("theirs 1 if 1=1 or or", 19);
        faultOfLaw("theirs 1 if 1<>1", 14);
        faultOfLaw("bars 1", 5);
        faultOfLaw("bars;", 5);
        faultOfLaw("bars; ;", 6);
        faultOfLaw(";bars", 0);
        faultOfLaw("bars,", 4);
        faultOfLaw("bars\t", 4);
        faultOfLaw("bars\u00e9", 4);
        faultOfLaw("goes folk 1", 10);
        faultOfLaw("pass", 0);
    }

    /** Promises 18 to 20: block II, tokens and words. */
    private static void everyByteAndWord() {
        for (int sign = 0; sign < 256; sign++) {
            char c = (char) sign;
            if (c >= '0' && c <= '9' || c >= 'a' && c <= 'z' || c == ' ') {
                continue;
            }
            faultOfLaw("theirs " + c, c == '[' ? 8 : 7);
            faultOfOrders("pass " + c, c == ';' ? 6 : 5);
            faultOfLaw("theirs 1 " + c, "+-*/%;".indexOf(c) < 0 ? 9 : 10);
        }
        String ofLaws = " room clock hour badger folk legs perch high mood ";
        String ofOrders = " hour done latest caught clock ";
        String others = "theirs goes bars if or and not stride to put on door by pass times done latest caught at a z zz";
        for (String word : (ofLaws.trim() + " " + others).split(" ")) {
            if (ofLaws.contains(" " + word + " ")) {
                goodLaw("theirs " + word + " if " + word + "=" + word + ";goes " + word);
            } else {
                faultOfLaw("theirs " + word, 7);
            }
            LowerHalf x = new LowerHalf();
            if (ofOrders.contains(" " + word + " ")) {
                Due.is(word, Due.orders(x, "pass if " + word + "=" + word), 1);
            } else if (" on room at ".contains(" " + word + " ")) {
                Due.is(word + " of one", Due.orders(x, "pass if " + word + " 0=0-1 and " + word + "01 = 0-1"), 1);
                faultOfOrders("pass if " + word + "=1", 8 + word.length());
            } else {
                faultOfOrders("stride " + word, 7);
            }
        }
        faultOfLaw("xheirs 1", 0);
        faultOfLaw("theirx 1", 0);
        faultOfLaw("barsz", 0);
        faultOfLaw("bars zzz", 5);
        faultOfLaw("bars azbycxdw", 5);
        faultOfLaw(";".repeat(400), 0);
        faultOfLaw("theirs 1 if " + "(".repeat(388), 20);
        faultOfLaw("theirs 1 " + "+".repeat(391), 10);
        goodLaw("bars" + " ".repeat(396));
        LowerHalf x = new LowerHalf();
        x.end(0);
        for (int k = 0; k < 20; k++) {
            x.feed(0x3b3b3b3b, 0x28282828, 0x3b3b3b3b, 0x5b5b5b5b, 0x3b3b3b3b);
        }
        Due.is("400 tokens", x.orders(), -6);
        Due.is("fault of 400 tokens", x.fault(), 0);
        for (String digits : "0 1 9 10 99 100 999 1000".split(" ")) {
            goodLaw("theirs " + digits + "+0" + digits);
        }
    }

    /** Promises 18 and 20: block II, clauses, parts, brackets. */
    private static void limits() {
        goodLaw("bars" + ";bars".repeat(11));
        faultOfLaw("bars" + ";bars".repeat(12), 60);
        faultOfLaw("bars" + ";bars".repeat(11) + "; ", 61);
        faultOfLaw("bars" + ";bars".repeat(11) + "; x", 61);
        goodLaw("theirs 1" + "+1".repeat(49));
        faultOfLaw("theirs 1" + "+1".repeat(50), 107);
        faultOfLaw("theirs 1" + "+1".repeat(49) + "+ x", 108);
        goodLaw("theirs 1" + "+1".repeat(48) + "+room");
        faultOfLaw("theirs 1" + "+1".repeat(47) + ";goes 1 if 1=1", 115);
        goodLaw("theirs " + "[".repeat(8) + "1" + "]".repeat(8));
        faultOfLaw("theirs " + "[".repeat(9) + "1" + "]".repeat(9), 15);
        goodLaw("bars if " + "(".repeat(8) + "1=1" + ")".repeat(8));
        faultOfLaw("bars if " + "(".repeat(9) + "1=1" + ")".repeat(9), 16);
        goodLaw("bars if " + "(".repeat(5) + "[[[1]]]=1" + ")".repeat(5));
        faultOfLaw("bars if " + "(".repeat(5) + "[[[[1]]]]=1" + ")".repeat(5), 16);
        goodLaw("theirs [1]+[1]+[1]+[1]+[1]+[1]+[1]+[1]+[1]+[1]");
        goodLaw("bars if " + "not ".repeat(97) + "1=1");
        goodLaw("theirs 0001000");
        goodLaw("theirs2if1=1;goes room+1if not(folk=1or badger>2)and high<3");
    }

    /** Promises 19 and 20. */
    private static void orderFaults() {
        faultOfOrders("theirs 1", 0);
        faultOfOrders("stride 0", 8);
        faultOfOrders("stride 0 by 1", 9);
        faultOfOrders("stride 0 to", 11);
        faultOfOrders("put 0 on", 8);
        faultOfOrders("put 0 to 1", 6);
        faultOfOrders("door 0 to 1", 7);
        faultOfOrders("pass 1", 5);
        faultOfOrders("pass times", 10);
        faultOfOrders("pass times 0", 11);
        faultOfOrders("pass times 21", 11);
        faultOfOrders("pass times [1]", 11);
        faultOfOrders("pass times hour", 11);
        faultOfOrders("pass if 1=1 times 2", 12);
        faultOfOrders("pass times 2 times 2", 13);
        faultOfOrders("pass if on 4=1", 11);
        faultOfOrders("pass if on=1", 10);
        faultOfOrders("pass if room 3=1", 13);
        faultOfOrders("pass if at 6=1", 11);
        faultOfOrders("pass if mood=1", 8);
        faultOfOrders("pass if badger=1", 8);
        faultOfOrders("pass" + ";pass".repeat(12), 60);
        faultOfOrders("door 1" + "+1".repeat(48) + " by 2+1", 108);
        LowerHalf x = new LowerHalf();
        Due.is("F, B, T and TIMES are no parts", Due.orders(x, "pass times 20 if on 0" + "+on 0".repeat(48) + "<0"), 20);
        Due.is("times 020", Due.orders(x, "pass times 020"), 20);
    }

    private static int theirs(String sum) {
        LowerHalf x = new LowerHalf();
        Due.under(x, "theirs 9;theirs " + sum);
        return x.room(3, 0);
    }

    private static int so(String test) {
        LowerHalf x = new LowerHalf();
        Due.under(x, "theirs 0; theirs 1 if " + test);
        return x.room(3, 0);
    }

    /** Promise 18: block II, sums; promise 11. */
    private static void sums() {
        Due.is("sum", theirs("1+2*3"), 7);
        Due.is("left", theirs("9-4-3"), 2);
        Due.is("left term", theirs("100/10/5"), 2);
        Due.is("brackets", theirs("[1+2]*3"), 9);
        Due.is("cut towards 0", theirs("[0-7]/2+10"), 7);
        Due.is("left over", theirs("[0-7]%4+10"), 7);
        Due.is("left over of a negative divisor", theirs("7%[0-4]"), 3);
        Due.is("nearest above", theirs("1000*1000*1000"), 10);
        Due.is("nearest below", theirs("0-1000*1000*1000"), 0);
        Due.is("beyond", theirs("1000*1000*1000+1"), 9);
        Due.is("beyond below", theirs("0-1000*1000*1000-1"), 9);
        Due.is("beyond on the way", theirs("1000*1000*1000*2/1000/1000/1000"), 9);
        Due.is("beyond by far", theirs("1000*1000*1000*1000*1000*1000*1000*1000*0"), 9);
        Due.is("divided by 0", theirs("1/0"), 9);
        Due.is("left over of 0", theirs("1%[1-1]"), 9);
        Due.is("0 divided", theirs("0/5"), 0);
        Due.is("room", theirs("room"), 3);
        Due.is("badger", theirs("badger+5"), 4);
        Due.is("folk", theirs("folk+5"), 4);
        Due.is("legs", theirs("legs+5"), 4);
        Due.is("perch", theirs("perch+5"), 4);
        Due.is("high", theirs("high+5"), 4);
    }

    /** Promise 18: block II, tests; promise 11. */
    private static void tests() {
        Due.is("<", so("1<2"), 1);
        Due.is("not <", so("2<2"), 0);
        Due.is(">", so("2>1"), 1);
        Due.is("=", so("1+1=2"), 1);
        Due.is("not", so("not 1=2"), 1);
        Due.is("not not", so("not not 1=2"), 0);
        Due.is("not binds its plain one alone", so("not 1=1 or 1=1"), 1);
        Due.is("and ahead of or", so("1=1 or 1=1 and 1=0"), 1);
        Due.is("brackets", so("(1=1 or 1=1) and 1=0"), 0);
        Due.is("broken", so("1/0=1"), 0);
        Due.is("not broken", so("not 1/0=1"), 0);
        Due.is("or asks no more", so("1=1 or 1/0=1"), 1);
        Due.is("or asks", so("1=0 or 1/0=1"), 0);
        Due.is("broken or", so("1/0=1 or 1=1"), 0);
        Due.is("and asks no more", so("not (1=0 and 1/0=1)"), 1);
        Due.is("and asks", so("not (1=1 and 1/0=1)"), 0);
        Due.is("broken in a bracket", so("(1/0=1 or 1=1) or 1=1"), 0);
        Due.is("or behind and", so("1=0 and 1/0=1 or 1=1"), 1);
        Due.is("three ors", so("1=0 or 1=1 or 1/0=1"), 1);
        Due.is("three ands", so("not (1=1 and 1=0 and 1/0=1)"), 1);
    }

    /** Promise 18: block II, words of laws; promises 7, 11, 12. */
    private static void lawsTell() {
        LowerHalf x = Due.ladder(3, 4);
        x.badger(2);
        x.badger(4);
        x.terms(0, 30);
        x.terms(2, 7);
        for (int room = 0; room < 6; room++) {
            for (int other = room + 1; other < 6; other++) {
                x.door(room, other);
            }
        }
        Due.under(x, "theirs clock; theirs hour if room=1; theirs mood if room=2; "
            + "goes badger; goes room+10 if badger=1; bars if legs=5 and high=4 and perch=1 and folk=0 and badger=0-1 and room=0");
        Due.is("clock", x.room(0, 0), 6);
        Due.is("hour", x.room(1, 0), 10);
        Due.is("mood", x.room(2, 0), 7);
        Due.is("goes", x.sow(0, 1), 0);
        Due.is("no room: it stays", x.sow(1, 1), 4);
        Due.is("barred", x.can(0, 1), 0);
        Due.is("not barred by none", x.force(-1) == 0 ? x.can(0, 1) : -9, 1);
        Due.under(x, "goes 3; goes 1/0; goes 5 if 1/0=1");
        Due.is("the last that holds", x.sow(0, 1), 3);
        Due.is("theirs without", x.room(0, 0), 0);
        Due.under(x, "goes folk+legs+perch+high+7");
        Due.is("none of these is told of badgers", x.sow(0, 1), 3);
        Due.under(x, "goes room");
        Due.is("where it is", x.sow(0, 1), 2);
    }

    /** Promise 19: block II, words of orders. */
    private static void ordersTell() {
        LowerHalf x = Due.ladder(0, 0, 0, 0, 0, 0);
        x.folk(5, 3);
        x.badger(0);
        x.thing(4, 0, 0);
        x.terms(0, 25);
        Due.is("words", Due.orders(x, "pass if hour=25 and clock=1 and done=0 and latest=0-1 and caught=0 and on 1=3"
            + " and on 2=0-1 and room 0=0 and room 1=0-1 and at 0=4 and at 5=0-1;"
            + "put 0 on 5 if hour=26 and clock=2 and done=1 and latest=2 and caught=2; put 0 on on 1 if at 0=5"), 3);
        Due.is("at", x.has(0, 0), 3);
        Due.is("caught", x.count(4), 2);
        Due.is("each time its if is asked", Due.orders(x, "pass times 9 if done<4"), 4);
        Due.is("latest is of this text", Due.orders(x, "pass if latest>0-1"), 0);
        Due.is("broken: not run", Due.orders(x, "pass if 1/0=1; pass"), 1);
        Due.is("sums anew each time", Due.orders(x, "stride 0 to on 0+1 times 5"), 5);
        Due.is("on", x.of(0, 1), 5);
        Due.is("what is not run is not asked for its sums", Due.orders(x, "put 1/0 on 99 if 1=0"), 0);
    }

    public static void main(String[] args) {
        lawFaults();
        everyByteAndWord();
        limits();
        orderFaults();
        sums();
        tests();
        lawsTell();
        ordersTell();
        Due.end("LanguageTest");
    }
}
