/** For each promise of the document: ordinary inputs, the edges it names, wrong inputs. */
public final class PromiseTest {
    // By hand, without a RULE: LOST are none, none, none, none, NEED 0 in MINUTES 0 to 4.
    private static final String ROOM =
        "room 10;thing 2 5;thing 7 3;cat 0 2 4;cat 9 3 1;need 0 6 4;need 1 4 1;need 0 3 2";

    private static int promise = 0;
    private static int right = 0;
    private static int wrong = 0;

    private static void due(String what, int got, int want) {
        if (got == want) {
            right++;
        } else {
            wrong++;
            System.out.println("promise " + promise + ": " + what + " answered " + got + ", due is " + want);
        }
    }

    private static CatNeed tell(CatNeed x, String text) {
        int size = Math.min(400, text.length());
        for (int i = 0; i < size; i += 20) {
            int[] v = new int[5];
            for (int k = 0; k < 20; k++) {
                v[k / 4] = v[k / 4] << 8 | (i + k < size ? text.charAt(i + k) : 0);
            }
            x.feed(v[0], v[1], v[2], v[3], v[4]);
        }
        x.end(size);
        return x;
    }

    private static CatNeed in(String room) {
        CatNeed x = tell(new CatNeed(), room);
        due("room \"" + room + "\"", Math.min(x.room(), 0), 0);
        return x;
    }

    private static CatNeed ruled(CatNeed x, String text) {
        tell(x, text);
        int number = x.rule();
        due("rule \"" + text + "\"", Math.min(number, 0), 0);
        x.force(number);
        return x;
    }

    private static CatNeed after(CatNeed x, int minutes) {
        for (int i = 0; i < minutes; i++) {
            x.minute();
        }
        return x;
    }

    private static int fault(int place, int kind) {
        return -2 - (1 + 8 * place + kind);
    }

    private static void roomFault(String text, int place, int kind) {
        due("room() of \"" + text + "\"", tell(new CatNeed(), text).room(), fault(place, kind));
    }

    private static void ruleFault(String text, int place, int kind) {
        due("rule() of \"" + text + "\"", tell(new CatNeed(), text).rule(), fault(place, kind));
    }

    /** A sum's sign for the only CAT and two THINGS: which of them it is ON after a MINUTE. */
    private static void wants(String rule, int want) {
        CatNeed x = ruled(in("room 9;thing 4 7;thing 5 11;cat 4 9 3;need 1 5 2;need 0 7 6"), rule);
        x.minute();
        due("\"" + rule + "\": cat(0, 3)", x.cat(0, 3), want);
    }

    private static void promise1() {
        CatNeed x = new CatNeed();
        int[] counts = {0, 0, 0, 0, 0, -1, 0, 0, 0, 0, 0, 0, 0, 0};
        for (int what = 0; what < counts.length; what++) {
            due("count(" + what + ")", x.count(what), counts[what]);
        }
        due("minute()", x.minute(), -1);
        due("NONE", CatNeed.NONE, -1);
    }

    private static void promise2() {
        CatNeed x = new CatNeed();
        due("feed", x.feed(0x6c696520, 0x31202020, 0x20202020, 0x20202020, 0x20202020), 20);
        due("rule of the fed bytes, highest first", x.rule(), 0);
        for (int i = 1; i <= 20; i++) {
            due("feed " + i, x.feed(-1, i, i, i, i), 20 * i);
        }
        due("feed beyond 400", x.feed(1, 2, 3, 4, 5), -1);
        due("count(13)", x.count(13), 400);
        due("end(381)", x.end(381), 381);
        due("feed to 401", x.feed(1, 2, 3, 4, 5), -1);
        due("end(380)", x.end(380), 380);
        due("feed to 400", x.feed(1, 2, 3, 4, 5), 400);
        // Bytes above 127 are bytes, not signs below 0.
        due("end(0)", x.end(0), 0);
        x.feed(0xffe9ff80, -1, -1, -1, -1);
        due("room of bytes 255", x.room(), fault(0, 0));
    }

    private static void promise3() {
        CatNeed x = new CatNeed();
        due("end(1) of none", x.end(1), -1);
        due("end(0) of none", x.end(0), 0);
        x.feed(0, 0, 0, 0, 0);
        due("end(-1)", x.end(-1), -1);
        due("end(21)", x.end(21), -1);
        due("count(13)", x.count(13), 20);
        due("end(20)", x.end(20), 20);
        due("end(7)", x.end(7), 7);
        due("end(8)", x.end(8), -1);
        due("count(13)", x.count(13), 7);
        due("end(min)", x.end(Integer.MIN_VALUE), -1);
        // What was cut off is not read.
        CatNeed y = tell(new CatNeed(), "room 25;thing 1 1");
        y.end(6);
        due("room()", y.room(), 0);
        due("LONG", y.count(0), 2);
        CatNeed z = tell(new CatNeed(), "lie thing;lie 5");
        z.end(6);
        due("rule()", z.rule(), fault(4, 0));
    }

    private static void promise4() {
        CatNeed x = tell(new CatNeed(), ROOM);
        due("room()", x.room(), 2);
        due("the tape", x.count(13), 0);
        ruled(x, "lie 0");
        x.seed(77);
        x.note(1, 0, 0);
        x.minute();
        x.image(2);
        due("room() of none", x.room(), fault(0, 0));
        due("all else stays", x.count(11) * 100 + x.count(10) * 10 + x.count(1), 112);
        tell(x, "room 2;thing 1 1;thing 0 1;thing 1 50 ; room");
        due("a faulty one", x.room(), fault(40, 4));
        due("the tape", x.count(13), 0);
        due("MINUTE stays", x.count(6), 1);
        tell(x, " room2  ;thing1 50;thing 0 0;thing 00001 00007  ");
        due("another", x.room(), 3);
        int[] counts = {2, 3, 0, 0, 1, 0, 0, 0, 0, 0, 0, 0, 77, 0};
        for (int what = 0; what < counts.length; what++) {
            due("count(" + what + ")", x.count(what), counts[what]);
        }
        due("back(2)", x.back(2), 1);
        due("THINGS of the IMAGE", x.count(1), 2);
        tell(x, "room 30");
        due("nothing in it", x.room(), 0);
        due("a minute of it", x.minute(), 0);
        fewerThanBefore();
        fullTapes();
        roomFaults();
    }

    private static void fewerThanBefore() {
        CatNeed x = in("room 9" + ";thing 1 5".repeat(6) + ";cat 1 1 1".repeat(3) + ";need 5 1 0".repeat(8));
        ruled(x, "lie 9*thing");
        due("lost all", x.minute(), 255);
        due("ring", x.ring(1), 1);
        due("pence", x.pence(6, 5), 0);
        due("due", x.due(5), 1);
        due("count(7)", x.count(7), 255);
        due("cats", x.thing(5, 4), 7);
        due("moved", x.moved(0, 1, 1), 0);
        due("shut", x.shut(1, 0), -1);
        due("tray", x.tray(1, 1), 255);
        due("rests", x.rests(0, 1, 1, 0), 25);
        tell(x, "room 5;thing 1 3;cat 3 1 1;need 0 2 1");
        due("room()", x.room(), 1);
        x.force(-1);
        due("count(7)", x.count(7), 0);
        due("minute", x.minute(), 0);
        due("count(7)", x.count(7), 1);
        due("met", x.minute(), 0);
        due("count(8)", x.count(8), 1);
        due("count(9)", x.count(9), 0);
        due("pence", x.pence(6, 0), 6);
        due("ring", x.ring(0), 3);
        due("ring", x.ring(1), 2);
        due("shut", x.shut(10, 1), 15);
        due("due", x.due(0), 3);
        due("cats", x.thing(0, 4), 0);
    }

    private static void fullTapes() {
        String blanks = " ".repeat(400);
        due("a digit at the end", tell(new CatNeed(), "room" + blanks.substring(0, 395) + "2").room(), 0);
        due("blanks at the end", tell(new CatNeed(), "room 2" + blanks.substring(0, 394)).room(), 0);
        roomFault("room 2" + blanks.substring(0, 392) + ";c", 399, 0);
        roomFault("room 2" + blanks.substring(0, 393) + ";", 400, 0);
        roomFault("room" + blanks.substring(0, 396), 400, 0);
        ruleFault("lie 1 if 1" + blanks.substring(0, 389) + "<", 400, 0);
        ruleFault("lie 1 if 1" + blanks.substring(0, 389) + ">", 400, 0);
        ruleFault("lie 1 if " + blanks.substring(0, 390) + "[", 400, 0);
        ruleFault("lie 1 if " + blanks.substring(0, 388) + "not", 400, 0);
        ruleFault("lie 1 if" + blanks.substring(0, 391) + "1", 400, 0);
        due("a word at the end", tell(new CatNeed(), "lie" + blanks.substring(0, 394) + "far").rule(), 0);
    }

    private static void roomFaults() {
        roomFault("", 0, 0);
        roomFault("   ", 3, 0);
        roomFault("room", 4, 0);
        roomFault("room  ", 6, 0);
        roomFault("room 1", 5, 1);
        roomFault("room 31", 5, 1);
        roomFault("room 000002", 5, 1);
        roomFault("room x", 5, 0);
        roomFault("Room 2", 0, 0);
        roomFault("roo 2", 0, 0);
        roomFault("roomy 2", 0, 0);
        roomFault("2", 0, 0);
        roomFault("thing 0 0", 0, 4);
        roomFault("need", 0, 4);
        roomFault("  cat 0 1 1", 2, 4);
        roomFault("room 2;", 7, 0);
        roomFault("room 2; ", 8, 0);
        roomFault("room 2;;", 7, 0);
        roomFault("room 2 3", 7, 0);
        roomFault("room 2 100000", 7, 0);
        roomFault("room 2 thing 0 0", 7, 0);
        roomFault("room 2;  room 3", 9, 4);
        roomFault("room 2;room", 7, 4);
        roomFault("room 2;lie 3", 7, 0);
        roomFault("room 2;thing 2 0", 13, 1);
        roomFault("room 2;thing 1 51", 15, 1);
        roomFault("room 2;thing 1", 14, 0);
        roomFault("room 2;thing 1;", 14, 0);
        roomFault("room 2;thing 100000 0", 13, 1);
        roomFault("room 2;thing -1 0", 13, 0);
        roomFault("room 2;cat 2 1 1", 11, 1);
        roomFault("room 2;cat 1 0 1", 13, 1);
        roomFault("room 2;cat 1 10 1", 13, 1);
        roomFault("room 2;cat 1 9 0", 15, 1);
        roomFault("room 2;cat 1 9 10", 15, 1);
        roomFault("room 2;need 0 1 0", 12, 1);
        roomFault("room 2;thing 0 0;need 1 1 0;thing 0 0", 22, 1);
        roomFault("room 2;thing 0 0;need 0 0 0", 24, 1);
        roomFault("room 2;thing 0 0;need 0 31 0", 24, 1);
        roomFault("room 2;thing 0 0;need 0 30 30", 27, 1);
        roomFault("room 2;thing 0 0;need 0 1 1", 26, 1);
        roomFault("room 2" + ";thing 0 0".repeat(6) + ";thing", 67, 4);
        roomFault("room 2" + ";thing 0 0".repeat(6) + ";things", 67, 0);
        roomFault("room 2" + ";cat 0 1 1".repeat(3) + ";cat 9", 37, 4);
        roomFault("room 2;thing 0 0" + ";need 0 1 0".repeat(8) + ";need", 105, 4);
        due("all that may be", in("room 30" + ";thing 29 50".repeat(6) + ";cat 29 9 9".repeat(3) + ";need 5 30 29".repeat(8)).count(3), 8);
    }

    private static void promise5() {
        CatNeed x = new CatNeed();
        due("rule() of none", x.rule(), fault(0, 0));
        for (int i = 0; i < 6; i++) {
            tell(x, i == 2 ? " lie 99999 - 2*cat if not [ far<=3 or due<5 ] and lost=0 ; lie1if2=2" : "lie " + i);
            due("rule " + i, x.rule(), i);
            due("the tape", x.count(13), 0);
        }
        tell(x, "lie 7");
        due("a seventh", x.rule(), -1);
        due("the tape stays", x.count(13), 5);
        x.end(0);
        tell(x, "nonsense");
        due("a faulty seventh", x.rule(), -1);
        due("count(4)", x.count(4), 6);
        CatNeed y = tell(new CatNeed(), "lie");
        due("a faulty one", y.rule(), fault(3, 0));
        due("the tape", y.count(13), 0);
        due("count(4)", y.count(4), 0);
        tell(y, "lie 9 if thing=1" + " and 1=1".repeat(18) + ";lie 9;lie;");
        due("a long faulty one", y.rule(), fault(170, 0));
        tell(y, "lie 8 if thing=0" + " and 1=1".repeat(18));
        due("one in its place", y.rule(), 0);
        y.force(0);
        tell(y, "room 5;thing 1 1;thing 1 1;cat 1 1 1").room();
        y.minute();
        due("nothing is left of the faulty one", y.cat(0, 3), 0);
        ruleFaults();
        ruleLimits();
        ruleSums();
        ruleTests();
        ruleWords();
    }

    private static void ruleFaults() {
        ruleFault("lie ", 4, 0);
        ruleFault("lies 1", 0, 0);
        ruleFault("  lies 1", 2, 0);
        ruleFault("lie 1;   lies 1", 9, 0);
        ruleFault("lie 1" + ";lie 1".repeat(11) + ";  lie 1", 74, 4);
        ruleFault("lie farz", 4, 0);
        ruleFault("lie   zfar", 6, 0);
        ruleFault("lie 1 if 1   !1", 13, 0);
        ruleFault("1", 0, 0);
        ruleFault("lie -1", 4, 0);
        ruleFault("lie (1)", 4, 0);
        ruleFault("lie [1]", 4, 0);
        ruleFault("lie not", 4, 0);
        ruleFault("lie far far", 8, 0);
        ruleFault("lie 5far", 5, 0);
        ruleFault("lie know", 4, 0);
        ruleFault("lie knowsx", 4, 0);
        ruleFault("lie Due", 4, 0);
        ruleFault("lie 123456", 4, 1);
        ruleFault("lie 1+000001", 6, 1);
        ruleFault("lie 1 100000", 6, 0);
        ruleFault("lie 1+", 6, 0);
        ruleFault("lie 1++1", 6, 0);
        ruleFault("lie 1*%1", 6, 0);
        ruleFault("lie 1;", 6, 0);
        ruleFault("lie 1;;lie 1", 6, 0);
        ruleFault("lie 1;far", 6, 0);
        ruleFault("lie 1 if", 8, 0);
        ruleFault("lie 1 if  ", 10, 0);
        ruleFault("lie 1 if;", 8, 0);
        ruleFault("lie 1 iff 1=1", 6, 0);
        ruleFault("lie 1 if 1", 10, 0);
        ruleFault("lie 1 if 1 and 1=1", 11, 0);
        ruleFault("lie 1 if 1=1=1", 12, 0);
        ruleFault("lie 1 if 1==1", 11, 0);
        ruleFault("lie 1 if 1=<1", 11, 0);
        ruleFault("lie 1 if 1< =1", 12, 0);
        ruleFault("lie 1 if 1<>1", 11, 0);
        ruleFault("lie 1 if 1!1", 10, 0);
        ruleFault("lie 1 if 1=1]", 12, 0);
        ruleFault("lie 1 if [1=1", 13, 0);
        ruleFault("lie 1 if [1=1;lie 1", 13, 0);
        ruleFault("lie 1 if [1+1]=2", 13, 0);
        ruleFault("lie 1 if []", 10, 0);
        ruleFault("lie 1 if not", 12, 0);
        ruleFault("lie 1 if not not", 16, 0);
        ruleFault("lie 1 if 1=not", 11, 0);
        ruleFault("lie 1 if 1=1 not", 13, 0);
        ruleFault("lie 1 if 1=1 and", 16, 0);
        ruleFault("lie 1 if 1=1 or or", 16, 0);
        ruleFault("lie 1 if 1=1 if 1=1", 13, 0);
        ruleFault("lie 1 and 1=1", 6, 0);
        ruleFault("lie 1\u0000", 5, 0);
        ruleFault("lie 1\u00e9", 5, 0);
    }

    private static void ruleLimits() {
        ruleFault("lie 1" + ";lie 1".repeat(11) + ";lie", 72, 4);
        ruleFault("lie 1" + ";lie 1".repeat(11) + ";liex", 72, 0);
        ruleFault("lie 1" + ";lie 1".repeat(11) + ";", 72, 0);
        due("12 clauses", tell(new CatNeed(), "lie 1" + ";lie 1".repeat(11)).rule(), 0);
        due("10 deep", tell(new CatNeed(), "lie 1 if " + "[".repeat(10) + "1=1" + "]".repeat(10)).rule(), 0);
        due("10 deep, again", tell(new CatNeed(), "lie 1 if not[not[not[not[not[1=1]]]]]and[1=1]").rule(), 0);
        ruleFault("lie 1 if " + "[".repeat(11) + "1=1", 19, 2);
        ruleFault("lie 1 if " + "[".repeat(10) + "not 1=1", 19, 2);
        ruleFault("lie 1 if " + "not ".repeat(10) + "[1=1]", 49, 2);
        ruleFault("lie 1 if " + "not ".repeat(11) + "1=1", 49, 2);
        ruleFault("lie 1 if 1=1 and not[not[not[not[not[ not 1=1]]]]]", 38, 2);
        due("60 values", tell(new CatNeed(), "lie 1" + "+far".repeat(59)).rule(), 0);
        ruleFault("lie 1" + "+far".repeat(59) + "-2", 242, 3);
        ruleFault("lie 1" + "+far".repeat(59) + "-123456", 242, 1);
        ruleFault("lie 1" + "+far".repeat(59) + "-what", 242, 0);
        ruleFault("lie 1" + "+1".repeat(58) + " if 1=1", 126, 3);
        ruleFault("lie 1" + "+1".repeat(58) + " if 1 <=1", 127, 3);
        ruleFault("lie 1" + "+1".repeat(57) + " if 1 <=1", 127, 3);
        due("58 values, a fact", tell(new CatNeed(), "lie 1" + "+1".repeat(56) + " if 1=1").rule(), 0);
        ruleFault("lie 1" + "+1".repeat(56) + " if 1=1+1", 125, 3);
        ruleFault("lie 1+1+1+1+1" + ";lie 1+1+1+1+1".repeat(10) + ";lie 1+1+1+1+1+1", 168, 3);
    }

    private static void ruleSums() {
        wants("lie 1", 0);
        wants("lie 0", -1);
        wants("lie 0-1", -1);
        wants("lie thing", 1);
        wants("lie 2-1-thing*5", 0);
        wants("lie 10-2*3-thing*9", 0);
        wants("lie 7/2*2-6+thing*0", -1);
        wants("lie 17%10/3-1-thing", 0);
        wants("lie 5/0", -1);
        wants("lie 5%0", -1);
        // This product goes round: it is -9223020790942360840, some -9223.3 times 99999 thrice.
        wants("lie 99999*99999*99999*9224", -1);
        wants("lie 0-99999*99999*99999*9224", 0);
        wants("lie 9 if 99999*99999*99999*9224/99999/99999/99999+9223=0", 0);
        wants("lie 9 if 99999*99999*99999*9224%7<0", 0);
        wants("lie 9 if 99999*99999*99999*9224/0=0", 0);
        wants("lie 5-due", 1);
        wants("lie 6-due", 1);
        wants("lie 7;lie 9*thing", 0);
    }

    private static void ruleTests() {
        wants("lie 9 if thing=1", 1);
        wants("lie 9 if thing<1", 0);
        wants("lie 9 if thing<=0", 0);
        wants("lie 9 if thing>=1", 1);
        wants("lie 9 if thing>0", 1);
        wants("lie 9 if thing>=0 and thing<2", 0);
        wants("lie 9 if not thing=0", 1);
        wants("lie 9 if not not thing=0", 0);
        wants("lie 9 if not thing=0 and thing=0", -1);
        wants("lie 9 if not [thing=0 and thing=1]", 0);
        wants("lie 9 if thing=0 or thing=1 and thing=0", 0);
        wants("lie 9 if [thing=0 or thing=1] and thing=1", 1);
        wants("lie 9 if thing=1 and thing=1 or thing=1 and thing=0", 1);
        wants("lie 9 if thing=3 or thing=2 or thing=1", 1);
        wants("lie 9 if 1+2*3=7 and thing+1=2", 1);
        wants("lie 9 if thing=5", -1);
        wants("lie 0 if thing=0;lie 5 if thing=1;lie 9", 1);
        wants("lie 3 if thing=0;lie 2", 0);
        wants("lie 3 if thing=0;lie 4 if thing=1;lie 90 if thing=0", 1);
    }

    private static void ruleWords() {
        wants("lie cat+1", 0);
        wants("lie far", 1);
        wants("lie 9 if far=0", 0);
        wants("lie 9 if far=1", 1);
        wants("lie due", 0);
        wants("lie 9 if due=2", 1);
        wants("lie 9 if due=6", 0);
        wants("lie 9 if knows=3 and thing=1", 1);
        wants("lie 9 if pace=9 and thing=1", 1);
        wants("lie worth", 1);
        wants("lie 9 if worth=7", 0);
        wants("lie 9 if on=0 and thing=1", 1);
        wants("lie 9 if met+lost=0 and thing=1", 1);
        wants("lie 9 if minute=0 and thing=1", 1);
        CatNeed x = ruled(in("room 5;thing 1 1;thing 1 1;cat 1 1 1;cat 1 1 1;cat 1 1 1"), "lie 9-on");
        x.minute();
        due("others ON it, cat 0", x.cat(0, 3), 0);
        due("others ON it, cat 1", x.cat(1, 3), 1);
        due("others ON it, cat 2", x.cat(2, 3), 0);
        x.minute();
        due("itself is no other", x.cat(1, 3), 1);
        CatNeed y = ruled(in("room 5;thing 1 1;thing 1 1;cat 1 1 1;need 0 1 0"), "lie met if thing=0;lie 2*lost");
        y.minute();
        due("met none", y.cat(0, 3), -1);
        y.minute();
        due("met one", y.cat(0, 3), 0);
        CatNeed z = ruled(in("room 5;thing 1 1;thing 1 1;cat 1 1 1;need 0 1 0;need 0 2 1"), "lie 3-lost if thing=0;lie 9 if minute=5");
        after(z, 3);
        due("lost 4", z.thing(0, 3), 4);
        after(z, 3);
        due("minute 5", z.cat(0, 3), 1);
        CatNeed w = ruled(in("room 5;thing 1 1;thing 4 1;cat 2 3 1;need 0 9 0"), "lie 1 if due=99");
        w.minute();
        due("never due", w.cat(0, 3), 1);
        w.strike(0);
        w.minute();
        due("struck, never due", w.cat(0, 3), 0);
    }

    private static void promise6() {
        CatNeed x = new CatNeed();
        due("force(-1)", x.force(-1), -1);
        due("force(0)", x.force(0), -2);
        tell(x, "lie 1").rule();
        tell(x, "lie 2").rule();
        due("force(1)", x.force(1), -1);
        due("force(2)", x.force(2), -2);
        due("force(-2)", x.force(-2), -2);
        due("count(5)", x.count(5), 1);
        due("force(0)", x.force(0), 1);
        due("force(-1)", x.force(-1), 0);
        due("count(5)", x.count(5), -1);
        CatNeed y = in("room 5;thing 1 1;thing 3 1;cat 2 1 1;need 1 2 1");
        tell(y, "lie 1").rule();
        y.force(0);
        y.minute();
        due("by the rule", y.cat(0, 3), 0);
        y.force(-1);
        y.minute();
        due("by none: none wanted", y.cat(0, 3), 0);
        y.minute();
        due("by none: on its way", y.cat(0, 0), 2);
    }

    private static void promise7() {
        CatNeed x = in(ROOM);
        after(x, 5);
        int[][] want = {{2, 5, 1, 1, 1}, {7, 3, 1, 0, 0}};
        for (int thing = 0; thing < 2; thing++) {
            for (int what = 0; what < 5; what++) {
                due("thing(" + thing + ", " + what + ")", x.thing(thing, what), want[thing][what]);
            }
        }
        due("thing(0, 5)", x.thing(0, 5), -1);
        due("thing(0, -1)", x.thing(0, -1), -1);
        due("thing(2, 0)", x.thing(2, 0), -1);
        due("thing(-1, 0)", x.thing(-1, 0), -1);
        CatNeed y = ruled(in("room 5;thing 1 1;cat 1 1 1;cat 4 1 1;cat 0 1 1"), "lie 1");
        y.minute();
        due("two of three", y.thing(0, 4), 5);
        due("no room", new CatNeed().thing(0, 0), -1);
    }

    private static void promise8() {
        CatNeed x = in(ROOM);
        int[][] want = {{0, 2, 4, -1}, {9, 3, 1, -1}};
        int[][] then = {{2, 2, 4, 0}, {7, 3, 1, 1}};
        for (int what = 0; what < 4; what++) {
            due("cat(0, " + what + ")", x.cat(0, what), want[0][what]);
            due("cat(1, " + what + ")", x.cat(1, what), want[1][what]);
        }
        x.minute();
        for (int what = 0; what < 4; what++) {
            due("cat(0, " + what + ")", x.cat(0, what), then[0][what]);
            due("cat(1, " + what + ")", x.cat(1, what), then[1][what]);
        }
        due("cat(0, 4)", x.cat(0, 4), -2);
        due("cat(0, -1)", x.cat(0, -1), -2);
        due("cat(2, 0)", x.cat(2, 0), -2);
        due("cat(-1, 0)", x.cat(-1, 0), -2);
    }

    private static void promise9() {
        CatNeed x = in(ROOM);
        after(x, 5);
        x.strike(2);
        int[][] want = {{0, 6, 4, 0, 0, 1}, {1, 4, 1, 0, 1, 0}, {0, 3, 2, 1, 1, 0}};
        for (int need = 0; need < 3; need++) {
            for (int what = 0; what < 6; what++) {
                due("need(" + need + ", " + what + ")", x.need(need, what), want[need][what]);
            }
        }
        due("need(0, 6)", x.need(0, 6), -1);
        due("need(0, -1)", x.need(0, -1), -1);
        due("need(3, 0)", x.need(3, 0), -1);
        due("need(-1, 0)", x.need(-1, 0), -1);
    }

    private static void promise10() {
        due("no room", new CatNeed().minute(), -1);
        CatNeed x = in(ROOM);
        int[] lost = {0, 0, 0, 0, 1};
        int[][] places = {{2, 7}, {4, 4}, {4, 4}, {4, 2}, {2, 5}};
        int[][] ons = {{0, 1}, {-1, -1}, {-1, -1}, {-1, 0}, {0, -1}};
        for (int i = 0; i < 5; i++) {
            due("minute " + i, x.minute(), lost[i]);
            for (int cat = 0; cat < 2; cat++) {
                due("place of " + cat + " behind " + i, x.cat(cat, 0), places[i][cat]);
                due("on of " + cat + " behind " + i, x.cat(cat, 3), ons[i][cat]);
            }
        }
        due("count(6)", x.count(6), 5);
        // CAT 1 sees where CAT 0 has gone in this same MINUTE.
        CatNeed y = ruled(in("room 5;thing 1 1;thing 3 1;cat 1 4 1;cat 1 4 1"), "lie 9-8*on");
        y.minute();
        due("cat 0 first", y.cat(0, 3), 0);
        due("cat 1 second", y.cat(1, 3), 1);
        // Several LOST and MET in one MINUTE; a struck one is neither.
        CatNeed z = in("room 5;thing 1 1;thing 3 1;cat 1 4 1;need 0 1 0;need 1 1 0;need 0 1 0;need 0 1 0");
        z.strike(3);
        due("lost two", z.minute(), 5);
        due("met", z.need(1, 4), 1);
        due("struck: not lost", z.need(3, 5), 0);
        // One that wants none stays ON what it lies on.
        CatNeed w = in("room 9;thing 4 1;cat 2 2 1;need 0 9 1");
        w.minute();
        due("on it", w.cat(0, 3), 0);
        due("and it is lost", w.minute(), 1);
        due("stays", w.cat(0, 3), 0);
        CatNeed t = in("room 2");
        for (int i = 0; i < 500; i++) {
            t.minute();
        }
        due("500 minutes", t.count(6), 500);
    }

    private static void promise11() {
        CatNeed x = in(ROOM);
        due("on nothing", x.lift(0), -1);
        x.minute();
        due("lift(1)", x.lift(1), 1);
        due("place", x.cat(1, 0), 0);
        due("on", x.cat(1, 3), -1);
        due("again", x.lift(1), -1);
        due("lift(2)", x.lift(2), -1);
        due("lift(-1)", x.lift(-1), -1);
        due("acts", x.count(11), 2);
        due("lift(0)", x.lift(0), 0);
        due("acts", x.count(11), 3);
    }

    private static void promise12() {
        CatNeed x = in(ROOM);
        due("move(0, 9)", x.move(0, 9), 2);
        due("place", x.thing(0, 0), 9);
        due("where it lies", x.move(0, 9), -1);
        due("beyond", x.move(0, 10), -1);
        due("below", x.move(0, -1), -1);
        due("no thing", x.move(2, 1), -1);
        due("no thing", x.move(-1, 1), -1);
        due("move(0, 0)", x.move(0, 0), 9);
        due("acts", x.count(11), 2);
        x.undo();
        x.undo();
        x.minute();
        due("under a cat", x.move(0, 5), -1);
        due("acts", x.count(11), 1);
        x.lift(0);
        due("free again", x.move(0, 5), 2);
        due("no room", new CatNeed().move(0, 0), -1);
    }

    private static void promise13() {
        CatNeed x = in(ROOM);
        due("strike(2)", x.strike(2), 1);
        due("struck", x.need(2, 3), 1);
        due("strike(2)", x.strike(2), 0);
        due("not struck", x.need(2, 3), 0);
        due("strike(3)", x.strike(3), -1);
        due("strike(-1)", x.strike(-1), -1);
        due("acts", x.count(11), 2);
        x.strike(0);
        x.minute();
        due("cat 0 goes for the next need in 4", x.cat(0, 3), -1);
        due("no room", new CatNeed().strike(0), -1);
    }

    private static void promise14() {
        CatNeed x = in(ROOM);
        due("teach(0, 9)", x.teach(0, 9), 4);
        due("teach(0, 9)", x.teach(0, 9), -1);
        due("teach(0, 1)", x.teach(0, 1), 9);
        due("teach(0, 0)", x.teach(0, 0), -1);
        due("teach(0, 10)", x.teach(0, 10), -1);
        due("teach(2, 1)", x.teach(2, 1), -1);
        due("teach(-1, 1)", x.teach(-1, 1), -1);
        due("acts", x.count(11), 2);
        due("knows", x.cat(0, 2), 1);
        x.minute();
        due("goes to thing 1 now", x.cat(0, 0), 2);
        due("but is not there", x.cat(0, 3), -1);
    }

    private static void promise15() {
        CatNeed x = in(ROOM);
        due("none", x.undo(), -2);
        after(x, 4);
        x.teach(0, 9);
        x.strike(1);
        due("strike undone", x.undo(), 5);
        due("not struck", x.need(1, 3), 0);
        due("teach undone", x.undo(), 4);
        due("knows", x.cat(0, 2), 4);
        due("minute undone", x.undo(), 3);
        due("place", x.cat(1, 0), 4);
        due("on", x.cat(1, 3), -1);
        due("MINUTE", x.count(6), 3);
        x.undo();
        due("met undone", x.count(8), 1);
        x.undo();
        due("met undone", x.count(8), 0);
        due("one was lifted", x.lift(1), 1);
        x.undo();
        due("lift undone", x.cat(1, 0), 7);
        due("lift undone", x.cat(1, 3), 1);
        due("to the begin", x.undo(), 0);
        due("none", x.undo(), -2);
        x.move(1, 3);
        x.undo();
        due("move undone", x.thing(1, 0), 7);
        CatNeed y = in("room 9;thing 4 1;cat 0 1 1;need 0 2 1");
        after(y, 25);
        due("20 can be", y.count(11), 20);
        for (int i = 19; i >= 0; i--) {
            due("undo", y.undo(), i);
            due("MINUTE", y.count(6), 5 + i);
        }
        due("none", y.undo(), -2);
        // What is no ACT stays: the RULE IN FORCE, NOTES, x.
        CatNeed z = in(ROOM);
        z.minute();
        ruled(z, "lie 1");
        z.note(1, 0, 0);
        z.seed(5);
        z.undo();
        due("rule", z.count(5), 0);
        due("notes", z.count(10), 1);
        due("x", z.count(12), 5);
        due("no room", new CatNeed().undo(), -2);
    }

    private static void promise16() {
        CatNeed x = in(ROOM);
        due("now", x.ahead(0, 0, 0), 0);
        due("place", x.ahead(0, 1, 0), 2);
        due("on", x.ahead(0, 1, 1), 0);
        due("place", x.ahead(1, 5, 0), 5);
        due("on nothing", x.ahead(1, 5, 1), -1);
        due("met", x.ahead(-7, 3, 2), 2);
        due("lost", x.ahead(99, 4, 3), 0);
        due("lost", x.ahead(99, 5, 3), 1);
        due("nothing changes", x.count(6) + x.count(8), 0);
        after(x, 3);
        due("met so far", x.ahead(0, 0, 2), 2);
        due("lost so far", x.ahead(0, 2, 3), 1);
        due("n", x.ahead(0, -1, 0), -2);
        due("n", x.ahead(0, 101, 2), -2);
        due("what", x.ahead(0, 0, 4), -2);
        due("what", x.ahead(0, 0, -1), -2);
        due("cat", x.ahead(2, 0, 0), -2);
        due("cat", x.ahead(-1, 0, 1), -2);
        due("no room", new CatNeed().ahead(0, 0, 2), -2);
        x.shut(5, 0);
        due("none is shut out", x.ahead(1, 1, 0), 2);
        CatNeed y = in("room 9;thing 4 1;need 0 1 0");
        due("100 minutes", y.ahead(0, 100, 2), 100);
    }

    private static void promise17() {
        CatNeed x = in(ROOM);
        due("due(0)", x.due(0), 2);
        due("due(1)", x.due(1), 1);
        after(x, 2);
        due("in this one", x.due(0), 2);
        due("due(1)", x.due(1), 5);
        x.strike(2);
        due("the other need", x.due(0), 4);
        x.strike(0);
        due("none", x.due(0), -2);
        due("no thing", x.due(2), -1);
        due("no thing", x.due(-1), -1);
        CatNeed y = in("room 9;thing 4 1;thing 5 1;need 0 30 29");
        due("at 29", y.due(0), 29);
        due("each minute", in("room 9;thing 4 1;need 0 1 0").due(0), 0);
        due("no need", y.due(1), -2);
    }

    private static void promise18() {
        CatNeed x = in(ROOM);
        due("served(1)", x.served(1), 1);
        due("served(2)", x.served(2), 2);
        after(x, 2);
        due("this one is the first", x.served(2), 2);
        due("no need", x.served(3), -1);
        due("no need", x.served(-1), -1);
        x.strike(1);
        due("struck", x.served(1), -2);
        CatNeed y = ruled(in("room 9;thing 4 1;cat 4 1 1;need 0 30 29"), "lie 1 if minute<60");
        due("always lost", y.served(0), -2);
        CatNeed z = ruled(in("room 9;thing 4 1;thing 8 1;cat 4 1 1;need 0 30 29"), "lie 1 if minute<60;lie thing");
        due("lost at 29 and 59", z.served(0), 89);
        CatNeed w = ruled(in("room 9;thing 4 1;thing 8 1;cat 4 1 1;need 0 1 0"), "lie 1 if minute<99 or thing=1 and minute>99;lie 9*thing");
        due("in the hundredth", w.served(0), 99);
        w.minute();
        due("from 1 on", w.served(0), 99);
        CatNeed v = ruled(in("room 9;thing 4 1;thing 8 1;cat 4 1 1;need 0 1 0"), "lie 1 if minute<100;lie 9*thing");
        due("behind the hundredth", v.served(0), -2);
        v.minute();
        due("in the hundredth", v.served(0), 100);
    }

    private static void promise19() {
        // NEED 0 is met each time by all; NEED 1 is lost under CAT 1 alone.
        CatNeed x = in("room 9;thing 1 5;thing 7 3;cat 1 1 1;cat 7 1 2;need 0 2 1;need 1 2 0");
        due("which", x.shut(10, 0), 1);
        due("how much", x.shut(10, 1), 25 + 15);
        due("none helps", in("room 9;thing 1 5;cat 7 1 1;need 0 2 1").shut(3, 0), -1);
        due("how much then", in("room 9;thing 1 5;cat 7 1 1;need 0 2 1").shut(3, 1), 5);
        due("no cats", in("room 9;thing 1 5;need 0 2 1").shut(60, 1), 150);
        due("no cats", in("room 9;thing 1 5;need 0 2 1").shut(60, 0), -1);
        CatNeed y = in("room 9;thing 1 5;thing 7 5;cat 1 1 1;cat 7 1 1;need 0 1 0;need 1 1 0");
        y.minute();
        due("who lies there is gone at once", y.shut(1, 1), 10);
        due("who lies there", y.shut(1, 0), 0);
        CatNeed z = ruled(in("room 9;thing 1 5;thing 7 5;cat 1 1 1;cat 7 1 1;need 0 1 0;need 1 1 0"), "lie 9 if thing=cat");
        due("one of two alike", z.shut(5, 0), 0);
        due("so much", z.shut(5, 1), 25);
        z.minute();
        due("ON nothing from now on", z.shut(5, 1), 25);
        due("no other is gone behind it", z.cat(0, 3), 0);
        due("n 0", x.shut(0, 0), -2);
        due("n 61", x.shut(61, 0), -2);
        due("what", x.shut(1, 2), -2);
        due("what", x.shut(1, -1), -2);
        due("no room", new CatNeed().shut(1, 0), -2);
    }

    private static void promise20() {
        // The slow CAT lies where it begins; what is moved away from it is met for longer.
        CatNeed x = in("room 10;thing 3 4;cat 3 1 1;need 0 1 0");
        due("where", x.moved(0, 1, 0), 0);
        due("how much", x.moved(0, 1, 1), 4);
        due("where", x.moved(0, 2, 0), 0);
        due("how much", x.moved(0, 2, 1), 8);
        due("for longer", x.moved(0, 3, 0), 7);
        due("for longer", x.moved(0, 3, 1), 12);
        due("the farthest", x.moved(0, 60, 0), 9);
        due("the farthest", x.moved(0, 60, 1), 20);
        due("nothing changes", x.thing(0, 0), 3);
        CatNeed y = in("room 10;thing 3 4;cat 0 1 1;need 0 5 4");
        due("where it does lie", y.moved(0, 4, 0), 3);
        due("how much", y.moved(0, 4, 1), 0);
        CatNeed z = ruled(in("room 10;thing 3 4;cat 3 1 1;need 0 1 0"), "lie 1 if minute=0");
        z.minute();
        due("who was ON it is not any more", z.moved(0, 2, 1), 8);
        due("the least", z.moved(0, 2, 0), 0);
        due("no thing", x.moved(1, 1, 0), -1);
        due("no thing", x.moved(-1, 1, 0), -1);
        due("n 0", x.moved(0, 0, 0), -1);
        due("n 61", x.moved(0, 61, 0), -1);
        due("what", x.moved(0, 1, 2), -1);
        due("what", x.moved(0, 1, -1), -1);
    }

    private static void promise21() {
        CatNeed x = ruled(in("room 9;thing 1 1;thing 7 1;cat 1 1 1;cat 7 1 1;need 0 1 0;need 1 1 0;need 0 3 2"), "lie 9 if thing=cat");
        due("two at first", x.tray(2, 0), 2);
        due("which", x.tray(2, 1), 3);
        due("three then", x.tray(3, 0), 3);
        due("which", x.tray(3, 1), 7);
        x.strike(1);
        due("what is struck is not told", x.tray(40, 1), 5);
        x.strike(0);
        due("one is left", x.tray(40, 1), 4);
        due("in none of two", x.tray(2, 0), 0);
        // The CAT comes when two were met: any one NEED less, and none is lost.
        CatNeed y = ruled(in("room 9;thing 1 1;cat 1 1 2;need 0 9 0;need 0 9 1;need 0 9 3"), "lie 1 if met=2");
        due("fewest", y.tray(9, 0), 1);
        due("of several the least", y.tray(9, 1), 1);
        y.strike(2);
        due("none, as one is struck", y.tray(9, 0), 0);
        CatNeed z = in("room 9;thing 1 1;cat 1 1 2;need 0 9 1;need 0 9 3");
        due("the one that calls", z.tray(9, 0), 1);
        due("the one that calls", z.tray(9, 1), 2);
        due("for one", x.tray(1, 0), 0);
        due("n 0", x.tray(0, 0), -1);
        due("n 41", x.tray(41, 0), -1);
        due("what", x.tray(1, 2), -1);
        due("what", x.tray(1, -1), -1);
        due("no room", new CatNeed().tray(1, 0), -1);
        due("no needs", in("room 2").tray(40, 1), 0);
    }

    private static void promise22() {
        CatNeed x = in("room 20;thing 9 1;thing 2 1;cat 9 9 1;cat 2 1 1;need 0 12 5");
        due("all without notes", x.knowing(0, 0), 9);
        due("the least", x.knowing(0, 1), 1);
        x.note(2, 0, 0);
        due("4 or more", x.knowing(0, 0), 2);
        due("the least", x.knowing(0, 1), 4);
        x.note(1, 0, -1);
        due("just 4", x.knowing(0, 0), 1);
        due("just 4", x.knowing(0, 1), 4);
        due("of the other: none", x.knowing(1, 0), 0);
        due("of the other: none", x.knowing(1, 1), -2);
        // What was done by hand does not count: from the begin on, as the text told it.
        x.move(0, 1);
        x.teach(0, 9);
        x.strike(0);
        after(x, 3);
        due("as told", x.knowing(0, 1), 4);
        ruled(x, "lie knows-3 if thing=0 and minute>0");
        due("by the rule: from 4 on", x.knowing(0, 0), 6);
        due("by the rule: the least", x.knowing(0, 1), 4);
        due("no cat", x.knowing(2, 0), -1);
        due("no cat", x.knowing(-1, 0), -1);
        x.shut(5, 0);
        x.ahead(0, 9, 2);
        due("as told, whatever was asked", x.knowing(0, 1), 4);
        due("what", x.knowing(0, 2), -1);
        due("what", x.knowing(0, -1), -1);
    }

    private static void promise23() {
        // In the first MINUTE 3 and 5 are ON something, the others are not.
        CatNeed x = in("room 9;thing 1 1;thing 8 1;cat 1 9 2;cat 8 9 2;need 0 9 5;need 1 9 3");
        due("how many", x.rests(0, 1, 1, 0), 4);
        due("first of one", x.rests(0, 1, 1, 1), 3);
        due("first of other", x.rests(0, 1, 1, 2), 3);
        // In six, 1, 3, 5, 7, 9 have 4 + 4, 6 + 2, 6 + 2, 1, 3 + 4.
        due("how many in six", x.rests(0, 1, 6, 0), 9);
        due("first of one in six", x.rests(0, 1, 6, 1), 1);
        // CAT 1 is too far from what it knows of by 3.
        CatNeed z = in("room 30;thing 1 1;thing 29 1;cat 1 9 2;cat 29 9 2;need 0 9 3;need 1 9 5");
        due("first of one", z.rests(0, 1, 1, 1), 3);
        due("first of other", z.rests(0, 1, 1, 2), 5);
        due("turned: first of one", z.rests(1, 0, 1, 1), 5);
        due("turned: first of other", z.rests(1, 0, 1, 2), 3);
        due("just one", z.rests(1, 0, 1, 0), 1);
        due("for twenty", in("room 9;cat 1 1 1;cat 1 1 1").rests(0, 1, 20, 0), 25);
        // CAT 1 stays in MINUTE 1 if both know 1, else neither gains by any other number.
        CatNeed w = ruled(in("room 30;thing 1 1;thing 1 1;thing 29 1;cat 1 1 1;cat 1 1 1"),
            "lie 9 if minute=0 and thing=1/knows;lie 9 if minute=1 and thing=1/knows and on*thing>=cat;lie 5 if minute=1 and thing=2");
        due("the other looks to the first one's row", w.rests(0, 1, 2, 0), 21);
        due("turned", w.rests(1, 0, 2, 0), 21);
        due("first", w.rests(0, 1, 2, 1) * 10 + w.rests(0, 1, 2, 2), 11);
        // Lying counts 1, a NEED that is lost under it 2: here for 5, which comes in time for it.
        CatNeed v = in("room 9;thing 1 1;thing 8 1;cat 1 9 2;cat 8 9 2;need 0 9 5");
        due("lost under it", v.rests(0, 1, 6, 1), 5);
        due("one twice", x.rests(0, 0, 1, 0), -1);
        due("no cat", x.rests(0, 2, 1, 0), -1);
        due("no cat", x.rests(-1, 1, 1, 0), -1);
        due("n 0", x.rests(0, 1, 0, 0), -1);
        due("n 21", x.rests(0, 1, 21, 0), -1);
        due("what", x.rests(0, 1, 1, 3), -1);
        due("what", x.rests(0, 1, 1, -1), -1);
        // In MINUTE 1 CAT 0 stays if both lie on the same THING, CAT 1 if they do not.
        CatNeed y = ruled(in("room 30;thing 1 1;thing 1 1;thing 29 1;cat 1 1 1;cat 1 1 1"),
            "lie 9 if minute=0 and thing=1/knows;lie 9 if minute=1 and thing=1/knows and on+cat=1;lie 5 if minute=1 and thing=2");
        due("all alike", y.rests(0, 1, 1, 0), 25);
        due("no rest", y.rests(0, 1, 2, 0), 0);
        due("no first", y.rests(0, 1, 2, 1), -2);
        due("no second", y.rests(0, 1, 2, 2), -2);
    }

    private static void promise24() {
        CatNeed x = in("room 9;thing 1 1;cat 8 1 1;need 0 4 3");
        // It goes to 1 from the MINUTES 2, 6, .. on, a PLACE each time, and is there behind MINUTE 26.
        due("first", x.ring(0), 27);
        due("later", x.ring(1), 4);
        x.minute();
        due("the same MINUTE", x.ring(0), 27);
        CatNeed y = in("room 9");
        due("at once", y.ring(0), 0);
        due("next", y.ring(1), 1);
        CatNeed z = in("room 9;thing 1 1;need 0 7 0;need 0 11 0");
        due("77 is too far", z.ring(0), -2);
        due("77 is too far", z.ring(1), -2);
        z.strike(1);
        due("struck", z.ring(1), 7);
        CatNeed w = in("room 9;thing 1 1;need 0 30 0;need 0 20 0");
        due("just 60", w.ring(0), 0);
        due("just 60", w.ring(1), 60);
        CatNeed v = ruled(in("room 9;thing 1 1;thing 1 1;cat 1 1 1"), "lie thing*minute%3+1");
        due("the same place, not the same thing", v.ring(1), 3);
        due("from 1 on", v.ring(0), 1);
        CatNeed u = ruled(in("room 30;thing 29 1;thing 0 1;cat 0 1 1;need 0 30 0;need 0 20 0"), "lie 1");
        due("too late to come again", u.ring(0), -2);
        due("in the sixtieth", ringBy(59).ring(0), 59);
        due("in the sixtieth", ringBy(59).ring(1), 1);
        due("behind the sixtieth", ringBy(60).ring(0), -2);
        due("what", x.ring(2), -1);
        due("what", x.ring(-1), -1);
        due("no room", new CatNeed().ring(0), -1);
    }

    /** CATS go one behind the other, a PLACE in each MINUTE up to this one. */
    private static CatNeed ringBy(int last) {
        return ruled(in("room 30;thing 29 1;cat 0 1 1;cat 0 1 1;cat 0 1 1"),
            "lie 1 if cat=0 and minute<29 or cat=1 and minute>28 and minute<58 or cat=2 and minute>57 and minute<" + last);
    }

    private static void promise25() {
        CatNeed x = in("room 9;thing 1 5;thing 2 3;thing 3 1;thing 4 1;need 0 1 0;need 1 1 0;need 2 1 0;need 3 9 8");
        due("nothing met", x.pence(100, 0), 0);
        x.minute();
        // Shares 5, 3, 1, 0 of 9.
        int[][] want = {{0, 0, 0, 0}, {1, 0, 0, 0}, {1, 1, 0, 0}, {2, 1, 0, 0}, {2, 1, 1, 0}, {3, 2, 0, 0}, {3, 2, 1, 0}};
        for (int much = 0; much < want.length; much++) {
            for (int thing = 0; thing < 4; thing++) {
                due("pence(" + much + ", " + thing + ")", x.pence(much, thing), want[much][thing]);
            }
        }
        due("much", x.pence(9999, 0), 5555);
        due("one each", x.pence(9998, 0), 5554);
        due("one each", x.pence(9998, 1), 3333);
        due("one each", x.pence(9998, 2), 1111);
        due("much", x.pence(10000, 0), -1);
        due("below", x.pence(-1, 0), -1);
        due("no thing", x.pence(1, 4), -1);
        due("no thing", x.pence(1, -1), -1);
        CatNeed y = in("room 9;thing 1 5;thing 2 5;thing 3 5;need 0 1 0;need 1 1 0;need 2 1 0");
        y.minute();
        due("alike: the least first", y.pence(5, 0), 2);
        due("alike: then the next", y.pence(5, 1), 2);
        due("alike: none left", y.pence(5, 2), 1);
        y.minute();
        due("by how often", y.pence(12, 1), 4);
        CatNeed z = in("room 9;thing 1 0;need 0 1 0");
        z.minute();
        due("worth nothing", z.pence(10, 0), 0);
    }

    private static void promise26() {
        CatNeed x = in(ROOM);
        due("note", x.note(60, 1, 1), 1);
        due("note of nothing", x.note(0, 0, -1), 2);
        due("n 61", x.note(61, 0, 0), -2);
        due("n -2", x.note(-2, 0, 0), -2);
        due("cat", x.note(0, 2, 0), -2);
        due("cat", x.note(0, -1, 0), -2);
        due("thing", x.note(0, 0, 2), -2);
        due("thing", x.note(0, 0, -2), -2);
        for (int i = 3; i <= 10; i++) {
            due("note", x.note(i, 0, 0), i);
        }
        due("an eleventh", x.note(0, 0, 0), -2);
        due("count(10)", x.count(10), 10);
        due("no act", x.count(11), 0);
        due("none then", x.note(-1, 99, 99), 0);
        due("count(10)", x.count(10), 0);
        due("note", x.note(0, 0, 0), 1);
        due("no room", new CatNeed().note(0, 0, -1), -2);
        due("no room", new CatNeed().note(-1, 0, -1), 0);
    }

    private static CatNeed three() {
        CatNeed x = in("room 9;thing 1 5;thing 8 3;cat 4 4 1;cat 4 4 1;need 0 9 5");
        ruled(x, "lie 1 if thing=0");
        ruled(x, "lie 1 if thing=1");
        ruled(x, "lie 1 if thing=cat");
        x.force(-1);
        return x;
    }

    private static void promise27() {
        CatNeed x = three();
        due("all and none", x.ruled(0), 4);
        due("none is first", x.ruled(1), -1);
        x.note(1, 0, 0);
        due("0 and 2", x.ruled(0), 2);
        due("first", x.ruled(1), 0);
        x.note(1, 1, 1);
        due("2 alone", x.ruled(0), 1);
        due("2 alone", x.ruled(1), 2);
        x.move(0, 8);
        x.minute();
        due("as told", x.ruled(1), 2);
        x.note(60, 1, 0);
        due("none such", x.ruled(0), 0);
        due("none such", x.ruled(1), -2);
        x.note(-1, 0, 0);
        x.note(60, 1, 1);
        due("to the sixtieth", x.ruled(0), 2);
        for (int i = 0; i < 9; i++) {
            x.note(59, 1, 1);
        }
        due("ten notes", x.ruled(0), 2);
        x.shut(9, 0);
        x.strike(0);
        x.ahead(0, 9, 0);
        due("as told, whatever was asked", x.ruled(0), 2);
        due("what", x.ruled(2), -3);
        due("what", x.ruled(-1), -3);
        due("no room", new CatNeed().ruled(0), -3);
    }

    private static void promise28() {
        CatNeed x = three();
        // At 1, by none, 0, 1, 2: CAT 0 is ON nothing, 0, 1, 0, CAT 1 ON nothing, 0, 1, 1.
        due("alike: the least cat", x.look(1, 0), 0);
        due("most alike", x.look(1, 1), 2);
        due("at 0 all alike", x.look(0, 1), 4);
        due("at 0 all alike", x.look(0, 0), 0);
        x.note(1, 0, 0);
        due("0 and 2: by CAT 1", x.look(1, 0), 1);
        due("0 and 2: by CAT 1", x.look(1, 1), 1);
        due("n 60", x.look(60, 0), 1);
        due("n 61", x.look(61, 0), -1);
        due("n -1", x.look(-1, 0), -1);
        due("what", x.look(0, 2), -1);
        due("what", x.look(0, -1), -1);
        x.note(1, 0, 1);
        due("of none", x.look(1, 0), -2);
        due("of none, what", x.look(1, 2), -1);
        due("no cats", in("room 9;thing 1 5").look(1, 1), -2);
        CatNeed y = in("room 9;thing 8 1;thing 1 1;thing 1 1;thing 1 1;thing 1 1;thing 1 1;cat 1 1 1;cat 1 1 1;cat 1 1 1");
        for (String thing : new String[] {"cat", "5", "5", "5-cat", "5-cat/2"}) {
            ruled(y, "lie 1 if thing=" + thing);
        }
        // ON, by none and 0 to 4: CAT 0 none - 5 5 5 5, CAT 1 none 1 5 5 4 5, CAT 2 none 2 5 5 3 4.
        due("the last thing", y.look(1, 1), 2);
        due("the last cat", y.look(1, 0), 2);
        y.note(1, 0, 5);
        due("by CAT 2 of 1 to 4", y.look(1, 1), 2);
        y.note(1, 1, 5);
        due("by CAT 2 of 1, 2 and 4", y.look(1, 1), 2);
        y.note(1, 2, 5);
        due("1 and 2 are alike", y.look(1, 1), 2);
        due("the least", y.look(1, 0), 0);
        due("no room", new CatNeed().look(0, 0), -1);
    }

    private static void promise29() {
        CatNeed x = new CatNeed();
        due("seed(5)", x.seed(5), 0);
        due("seed(-1)", x.seed(-1), -1);
        due("seed(min)", x.seed(Integer.MIN_VALUE), -1);
        due("seed(max)", x.seed(Integer.MAX_VALUE), 5);
        due("seed(0)", x.seed(0), Integer.MAX_VALUE);
        due("count(12)", x.count(12), 0);
    }

    private static void promise30() {
        CatNeed x = ruled(in("room 9;thing 1 5;thing 8 3;thing 4 0;cat 1 9 1;cat 8 9 1"), "lie 9 if thing=cat");
        for (int seed = 0; seed < 2000000000; seed += 99999999) {
            x.seed(seed);
            int[] have = drawnByHand(seed, 3, 20, 60);
            due("have", x.visits(3, 20, 60, 0), have[0]);
            due("have not", x.visits(3, 20, 60, 1), have[1]);
            due("x as it was", x.count(12), seed);
        }
        due("none comes", x.visits(10, 60, 0, 0) + x.visits(10, 60, 0, 1), 0);
        due("all come", x.visits(10, 60, 100, 0) + x.visits(10, 60, 100, 1), 600);
        due("nothing there", in("room 9;cat 0 1 1").visits(1, 9, 100, 0), 0);
        due("m 0", x.visits(0, 1, 0, 0), -1);
        due("m 11", x.visits(11, 1, 0, 0), -1);
        due("n 0", x.visits(1, 0, 0, 0), -1);
        due("n 61", x.visits(1, 61, 0, 0), -1);
        due("p -1", x.visits(1, 1, -1, 0), -1);
        due("p 101", x.visits(1, 1, 101, 0), -1);
        due("what", x.visits(1, 1, 0, 2), -1);
        due("what", x.visits(1, 1, 0, -1), -1);
        due("no room", new CatNeed().visits(1, 1, 0, 0), -1);
        // Each time from now on: the CAT is away in each first MINUTE, and ON it then.
        CatNeed y = ruled(in("room 9;thing 1 5;cat 3 1 1"), "lie 1");
        due("each from now on", y.visits(5, 3, 100, 0), 5);
        due("each from now on", y.visits(5, 3, 100, 1), 10);
        due("one minute", y.visits(1, 1, 100, 0), 1);
        due("two minutes", y.visits(1, 2, 100, 1), 1);
        due("nothing changes", y.cat(0, 0), 3);
    }

    /** CATS lie on THINGS 0 and 1 of three from the first MINUTE on. */
    private static int[] drawnByHand(int seed, int m, int n, int p) {
        java.math.BigInteger x = java.math.BigInteger.valueOf(seed);
        int[] out = new int[2];
        int draws = 0;
        boolean comes = false;
        while (draws < m * n || comes) {
            x = x.multiply(java.math.BigInteger.valueOf(1103515245)).add(java.math.BigInteger.valueOf(12345));
            x = x.mod(java.math.BigInteger.valueOf(2147483648L));
            int draw = x.intValue() / 65536;
            if (comes) {
                out[draw % 3 == 2 ? 0 : 1]++;
                comes = false;
            } else {
                comes = draw % 100 < p;
                draws++;
            }
        }
        return out;
    }

    private static void promise31() {
        CatNeed x = in(ROOM);
        ruled(x, "lie 0");
        ruled(x, "lie 0");
        x.force(-1);
        x.note(5, 0, 0);
        x.seed(31);
        after(x, 5);
        x.strike(0);
        x.feed(1, 2, 3, 4, 5);
        int[] counts = {10, 2, 2, 3, 2, -1, 5, 6, 2, 1, 1, 6, 31, 20};
        for (int what = 0; what < counts.length; what++) {
            due("count(" + what + ")", x.count(what), counts[what]);
        }
        x.strike(2);
        due("struck is not due", x.count(7), 2);
        due("count(14)", x.count(14), -1);
        due("count(-1)", x.count(-1), -1);
        due("count(5)", x.force(1) + x.count(5), 0);
    }

    private static void promise32() {
        CatNeed x = new CatNeed();
        due("of nothing", x.image(3), 0);
        due("image(4)", x.image(4), -1);
        due("image(-1)", x.image(-1), -1);
        tell(x, ROOM).room();
        after(x, 3);
        due("image(0)", x.image(0), 3);
        x.minute();
        due("made again", x.image(0), 4);
        x.minute();
        due("back(0)", x.back(0), 4);
    }

    private static void promise33() {
        CatNeed x = in(ROOM);
        due("never made", x.back(1), -1);
        due("back(4)", x.back(4), -1);
        due("back(-1)", x.back(-1), -1);
        ruled(x, "lie 0");
        x.force(-1);
        after(x, 3);
        x.note(1, 0, 0);
        x.seed(9);
        x.teach(1, 7);
        x.image(1);
        after(x, 25);
        x.note(2, 0, 0);
        x.seed(10);
        x.move(0, 5);
        x.strike(1);
        ruled(x, "lie 9");
        x.feed(1, 2, 3, 4, 5);
        x.image(2);
        due("back(1)", x.back(1), 3);
        int[] counts = {10, 2, 2, 3, 2, -1, 3, 0, 2, 0, 1, 4, 9, 20};
        for (int what = 0; what < counts.length; what++) {
            due("count(" + what + ")", x.count(what), counts[what]);
        }
        due("knows", x.cat(1, 2), 7);
        due("struck", x.need(1, 3), 0);
        due("undo", x.undo(), 3);
        due("knows", x.cat(1, 2), 1);
        due("undo", x.undo(), 2);
        due("place", x.cat(0, 0), 4);
        due("undo", x.undo(), 1);
        due("undo", x.undo(), 0);
        due("as at the begin", x.cat(1, 0), 9);
        due("the other stays", x.back(2), 28);
        due("its rule", x.count(5), 1);
        due("again", x.back(1), 3);
        due("undo as it was", x.count(11), 4);
        x.end(0);
        tell(x, "room 2");
        x.room();
        due("another room", x.count(0), 2);
        due("back(1)", x.back(1), 3);
        due("the room of the image", x.count(0), 10);
        due("its thing", x.thing(1, 1), 3);
        CatNeed y = three();
        y.note(1, 1, 1);
        y.image(0);
        y.note(-1, 0, 0);
        y.note(60, 0, 0);
        due("by other notes", y.ruled(1), -1);
        y.back(0);
        due("by the notes of the image", y.ruled(1), 1);
        due("how many", y.ruled(0), 2);
        y.note(-1, 0, 0);
        y.note(2, 1, 1);
        y.image(0);
        y.note(-1, 0, 0);
        y.note(0, 1, 1);
        due("not at the begin", y.ruled(0), 0);
        y.back(0);
        due("by the MINUTE of the image's note", y.ruled(0), 2);
        due("back(32)", y.back(32), -1);
        due("back(-32)", y.back(-32), -1);
    }

    public static void main(String[] args) {
        Runnable[] promises = {
            PromiseTest::promise1, PromiseTest::promise2, PromiseTest::promise3, PromiseTest::promise4, PromiseTest::promise5,
            PromiseTest::promise6, PromiseTest::promise7, PromiseTest::promise8, PromiseTest::promise9, PromiseTest::promise10,
            PromiseTest::promise11, PromiseTest::promise12, PromiseTest::promise13, PromiseTest::promise14, PromiseTest::promise15,
            PromiseTest::promise16, PromiseTest::promise17, PromiseTest::promise18, PromiseTest::promise19, PromiseTest::promise20,
            PromiseTest::promise21, PromiseTest::promise22, PromiseTest::promise23, PromiseTest::promise24, PromiseTest::promise25,
            PromiseTest::promise26, PromiseTest::promise27, PromiseTest::promise28, PromiseTest::promise29, PromiseTest::promise30,
            PromiseTest::promise31, PromiseTest::promise32, PromiseTest::promise33};
        for (int i = 0; i < promises.length; i++) {
            promise = i + 1;
            promises[i].run();
        }
        System.out.println(right + " passed, " + wrong + " failed");
        if (wrong != 0) {
            System.exit(1);
        }
    }
}
