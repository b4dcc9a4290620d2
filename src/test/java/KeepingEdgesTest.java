import java.math.BigInteger;

/** The edges of promises 26 to 33, and of part III of the Terms as far as it keeps: NOTES, DRAWS, IMAGES. */
public final class KeepingEdgesTest extends Edges {
    private static final String ROOM = "room 10;thing 2 5;thing 7 3;cat 0 2 4;cat 9 3 1;need 0 6 4;need 1 4 1;need 0 3 2";
    private static final int[] NO_WHAT = {-1, 2, 3, LEAST, MOST};

    // ---- promise 26 ----

    private static void note() {
        says(26, "A NOTE .. how many");
        CatNeed x = in("room 9" + ";thing 4 1".repeat(6) + ";cat 4 1 1".repeat(3));
        due("note(0, 0, 0)", x.note(0, 0, 0), 1);
        due("note(60, 2, 5)", x.note(60, 2, 5), 2);
        due("note(60, 2, 5) again", x.note(60, 2, 5), 3);
        due("note(1, 0, -1), nothing", x.note(1, 0, -1), 4);
        due("no ACT: count(11)", x.count(11), 0);
        due("count(10)", x.count(10), 4);

        says(26, "-2, and nothing happens, without these (thing NONE: nothing)");
        String before = seen(x);
        int[][] none = {{61, 0, 0}, {-2, 0, 0}, {LEAST, 0, 0}, {MOST, 0, 0}, {0, 3, 0}, {0, -1, 0}, {0, LEAST, 0}, {0, MOST, 0},
            {0, 0, 6}, {0, 0, -2}, {0, 0, LEAST}, {0, 0, MOST}, {0, 3, -1}};
        for (int[] a : none) {
            due("note(" + a[0] + ", " + a[1] + ", " + a[2] + ")", x.note(a[0], a[1], a[2]), -2);
        }
        same("all", seen(x), before);
        due("note(0, 0, 2) of two", in(ROOM).note(0, 0, 2), -2);
        due("note(0, 2, 0) of two", in(ROOM).note(0, 2, 0), -2);
        due("note(0, 0, -1) without CATS", in("room 9;thing 4 1").note(0, 0, -1), -2);
        due("note(0, 0, 0) without THINGS", in("room 9;cat 4 1 1").note(0, 0, 0), -2);
        due("note(0, 0, -1) without THINGS", in("room 9;cat 4 1 1").note(0, 0, -1), 1);
        due("note(0, 0, -1) without a ROOM", new CatNeed().note(0, 0, -1), -2);

        says(26, "or if there are 10");
        CatNeed y = in(ROOM);
        for (int i = 1; i <= 10; i++) {
            due("note, the " + i + "th", y.note(i, 0, -1), i);
        }
        before = seen(y);
        due("note, the 11th", y.note(0, 0, 0), -2);
        due("note, the 12th", y.note(60, 1, 1), -2);
        same("all", seen(y), before);
        due("the ten are so: ruled(0)", noneOn(10).ruled(0), 1);
        CatNeed ten = noneOn(10);
        ten.note(1, 0, 0);
        due("the 11th is none: ruled(0)", ten.ruled(0), 1);
        CatNeed nine = noneOn(9);
        nine.note(1, 0, 0);
        due("the 10th is one: ruled(0)", nine.ruled(0), 0);

        says(26, "n NONE: there are none then, 0");
        due("note(-1, 0, 0) of ten", y.note(-1, 0, 0), 0);
        due("count(10)", y.count(10), 0);
        due("note(-1, MOST, LEAST) of none", y.note(-1, MOST, LEAST), 0);
        due("note(0, 0, 0), the first", y.note(0, 0, 0), 1);
        due("note(-1, -1, -1) without a ROOM", new CatNeed().note(-1, -1, -1), 0);
        ten.note(-1, 0, 0);
        ten.note(1, 0, 0);
        due("what was noted is no more: ruled(0)", ten.ruled(0), 0);
    }

    /** A CAT that never goes, and so many NOTES of that. */
    private static CatNeed noneOn(int notes) {
        CatNeed x = in("room 9;thing 4 1;cat 4 1 1");
        for (int i = 0; i < notes; i++) {
            x.note(i, 0, -1);
        }
        return x;
    }

    // ---- promises 27 and 28 ----

    private static void rules(CatNeed x, int many, int first) {
        due("ruled(0)", x.ruled(0), many);
        due("ruled(1)", x.ruled(1), first);
    }

    /** RULES 0 to 5: from the MINUTE 10 * number on a CAT lies on THING number. */
    private static CatNeed six() {
        CatNeed x = in("room 9" + ";thing 4 1".repeat(6) + ";cat 4 1 1;cat 0 9 1;cat 4 9 1");
        for (int rule = 0; rule < 6; rule++) {
            tell(x, "lie 1 if cat=0 and thing=" + rule + " and minute>=10*" + rule).rule();
        }
        return x;
    }

    private static void ruled() {
        says(27, "which of the RULES, and of none, so that .. all NOTES are so: how many; the first (none ahead of 0, told as NONE)");
        rules(in("room 2"), 1, -1);
        rules(six(), 7, -1);
        for (int rule = 0; rule < 6; rule++) {
            CatNeed x = six();
            x.note(60, 0, rule);
            rules(x, 1, rule);
            x.note(10 * rule + 1, 0, rule);
            rules(x, 1, rule);
            x.note(10 * rule, 0, -1);
            rules(x, 1, rule);
            x.note(10 * rule, 0, rule);
            rules(x, 0, -2);
        }
        CatNeed late = six();
        late.note(41, 0, -1);
        rules(late, 2, -1);
        late.note(60, 0, -1);
        rules(late, 1, -1);
        CatNeed last = six();
        last.note(60, 0, 5);
        last.note(60, 1, -1);
        rules(last, 1, 5);

        says(27, "at the begin of the n-th MINUTE of all (0 to 60)");
        for (int n : new int[] {0, 1, 59, 60}) {
            CatNeed x = in("room 9;thing 4 1;cat 4 1 1");
            tell(x, "lie 1 if minute=" + n + "-1").rule();
            tell(x, "lie 1 if minute=" + n).rule();
            x.note(n, 0, -1);
            rules(x, n == 0 ? 3 : 2, -1);
            x.note(-1, 0, 0);
            x.note(n, 0, 0);
            rules(x, n == 0 ? 0 : 1, n == 0 ? -2 : 0);
        }

        says(27, "so that from the begin on, all as the text told it");
        CatNeed y = in("room 9;thing 4 1;thing 8 1;cat 4 1 2;need 0 9 3", "lie 1 if thing=1");
        y.note(2, 0, 0);
        y.note(1, 0, -1);
        rules(y, 1, -1);
        y.move(0, 0);
        y.strike(0);
        y.teach(0, 9);
        after(y, 4);
        rules(y, 1, -1);
        y.force(-1);
        rules(y, 1, -1);

        says(27, "(NONE: none; -2: there is none such). -3 for others, or without a ROOM");
        for (int what : NO_WHAT) {
            due("ruled(" + what + ")", y.ruled(what), -3);
        }
        CatNeed none = new CatNeed();
        forced(none, "lie 1");
        rules(none, -3, -3);
        y.note(0, 0, 0);
        rules(y, 0, -2);
        due("ruled(2), when there is none such", y.ruled(2), -3);
    }

    private static void best(CatNeed x, int n, int cat, int many) {
        due("look(" + n + ", 0)", x.look(n, 0), cat);
        due("look(" + n + ", 1)", x.look(n, 1), many);
    }

    private static void look() {
        says(28, "the CAT by what it is ON these part best: the most alike are fewest, of several the least; how many");
        best(in("room 9;cat 1 1 1;cat 1 1 1"), 0, 0, 1);
        best(six(), 0, 0, 7);
        best(six(), 1, 0, 6);
        best(six(), 10, 0, 6);
        best(six(), 11, 0, 5);
        best(six(), 50, 0, 2);
        best(six(), 51, 0, 1);
        best(six(), 60, 0, 1);
        for (int cat = 0; cat < 3; cat++) {
            CatNeed x = in("room 9;thing 4 1;thing 4 1;cat 4 1 1;cat 4 1 1;cat 4 1 1");
            tell(x, "lie 1 if thing=0 or cat=" + cat + " and thing=1").rule();
            tell(x, "lie 1 if thing=0 or cat=" + cat + " and 1=0;lie 1 if cat=" + cat).rule();
            tell(x, "lie 1+thing*2 if cat=" + cat + ";lie 1 if thing=0").rule();
            best(x, 0, 0, 4);
            // By none, 0, 1, 2: CAT cat is ON nothing, 0, 0, 1, the others nothing, 0, 0, 0.
            best(x, 1, cat, 2);
        }
        CatNeed y5 = in("room 9;thing 8 1" + ";thing 1 1".repeat(5) + ";cat 1 1 1".repeat(3));
        for (String thing : new String[] {"cat", "5", "5", "5-cat", "5-cat/2"}) {
            tell(y5, "lie 1 if thing=" + thing).rule();
        }
        // ON, by none and 0 to 4: CAT 0 nothing, nothing (too far), 5 5 5 5, CAT 1 nothing, 1 5 5 4 5, CAT 2 nothing, 2 5 5 3 4.
        best(y5, 1, 2, 2);
        y5.note(1, 0, 5);
        best(y5, 1, 2, 2);
        y5.note(1, 1, 5);
        best(y5, 1, 2, 2);
        y5.note(1, 2, 5);
        best(y5, 1, 0, 2);
        CatNeed two = in("room 9;thing 4 1;cat 0 1 1;cat 4 1 1;cat 4 1 1", "lie 1");
        best(two, 1, 1, 1);
        best(two, 4, 0, 1);
        best(two, 3, 1, 1);

        says(28, "LOOK (n 0 to 60) .. at the begin of the n-th MINUTE");
        CatNeed y = in("room 9;thing 4 1;cat 4 1 1", "lie 1 if minute=59");
        best(y, 0, 0, 2);
        best(y, 59, 0, 2);
        best(y, 60, 0, 1);

        says(28, "which of the RULES, and of none, so that .. all NOTES are so");
        CatNeed z = six();
        z.note(30, 0, -1);
        best(z, 31, 0, 3);
        best(z, 60, 0, 1);
        z.note(60, 0, 4);
        best(z, 0, 0, 1);

        says(28, "-2: RULED is of none (no RULE is so, nor is it so by none), or there are no CATS");
        y.note(0, 0, 0);
        best(y, 0, -2, -2);
        best(y, 60, -2, -2);
        best(in("room 9;thing 4 1"), 0, -2, -2);
        best(in("room 9;thing 4 1", "lie 1"), 60, -2, -2);

        says(28, "NONE without these, or a ROOM");
        for (int n : new int[] {-1, 61, LEAST, MOST}) {
            best(two, n, -1, -1);
            best(y, n, -1, -1);
        }
        for (int what : NO_WHAT) {
            due("look(0, " + what + ")", two.look(0, what), -1);
            due("look(0, " + what + "), RULED being of none", y.look(0, what), -1);
        }
        best(new CatNeed(), 0, -1, -1);
    }

    // ---- promises 29 and 30 ----

    private static void seed() {
        says(29, "x becomes a number: what it was .. (0 to 2147483647; 0 at first)");
        CatNeed x = new CatNeed();
        due("seed(MOST)", x.seed(MOST), 0);
        due("seed(1)", x.seed(1), MOST);
        due("seed(0)", x.seed(0), 1);
        due("seed(0)", x.seed(0), 0);
        due("seed(7)", x.seed(7), 0);

        says(29, "NONE, and nothing happens, below 0");
        for (int n : new int[] {-1, -7, LEAST}) {
            due("seed(" + n + ")", x.seed(n), -1);
            due("count(12)", x.count(12), 7);
        }
        due("seed(8)", x.seed(8), 7);
        due("no ACT: count(11)", x.count(11), 0);
    }

    private static void have(CatNeed x, int m, int n, int p, int have, int haveNot) {
        String call = "visits(" + m + ", " + n + ", " + p + ", ";
        due(call + "0)", x.visits(m, n, p, 0), have);
        due(call + "1)", x.visits(m, n, p, 1), haveNot);
    }

    /** Which THINGS are needed, one behind the other, and at which MINUTE of how many (n each time). */
    private static int[] drawn(int seed, int minutes, int p, int things) {
        BigInteger x = BigInteger.valueOf(seed);
        int[] wanted = new int[minutes];
        for (int minute = 0; minute < minutes; minute++) {
            x = next(x);
            wanted[minute] = -1;
            if (x.intValue() / 65536 % 100 < p && things > 0) {
                x = next(x);
                wanted[minute] = x.intValue() / 65536 % things;
            }
        }
        return wanted;
    }

    private static BigInteger next(BigInteger x) {
        return x.multiply(BigInteger.valueOf(1103515245)).add(BigInteger.valueOf(12345)).mod(BigInteger.valueOf(2147483648L));
    }

    private static void visits() {
        says(30, "VISITS m times (1 to 10; .. n MINUTES (1 to 60)");
        CatNeed free = in("room 9;thing 4 1;cat 0 1 1");
        have(free, 1, 1, 100, 1, 0);
        have(free, 10, 1, 100, 10, 0);
        have(free, 1, 60, 100, 60, 0);
        have(free, 10, 60, 100, 600, 0);
        CatNeed under = in("room 9;thing 4 1;cat 4 1 1", "lie 1");
        have(under, 10, 60, 100, 0, 600);

        says(30, "ahead of each MINUTE a DRAW mod 100; is it below p (0 to 100)");
        have(free, 10, 60, 0, 0, 0);
        // By these x the first DRAW is 0, 98, 99, 100, 32699, 32700, 32767, just so or 65535 65536ths above it.
        int[][] seeds = {{2088216195, 0}, {421635715, 98}, {75933315, 99}, {1877714563, 0}, {171878019, 99}, {1973659267, 0}, {286434947, 67},
            {2032319262, 0}, {365738782, 98}, {20036382, 99}, {230538014, 67}};
        for (int[] seed : seeds) {
            free.seed(seed[0]);
            have(free, 1, 1, 100, 1, 0);
            have(free, 1, 1, seed[1], 0, 0);
            have(free, 1, 1, seed[1] + 1, 1, 0);
        }

        says(30, "becomes x * 1103515245 + 12345, of 2147483648 the rest; a DRAW is x / 65536");
        for (int things = 1; things <= 6; things++) {
            CatNeed x = in("room 9" + ";thing 4 1".repeat(things) + ";cat 4 1 1", "lie 1 if thing=" + (things - 1));
            for (int seed : new int[] {0, 1, 4711, 2147483646, MOST}) {
                x.seed(seed);
                for (int p : new int[] {1, 50, 99}) {
                    int lying = 0;
                    int all = 0;
                    for (int wanted : drawn(seed, 3 * 7, p, things)) {
                        all += wanted >= 0 ? 1 : 0;
                        lying += wanted == things - 1 ? 1 : 0;
                    }
                    have(x, 3, 7, p, all - lying, lying);
                }
                due("x as it was: count(12)", x.count(12), seed);
            }
        }

        says(30, "and are there THINGS");
        have(in("room 9;cat 4 1 1"), 10, 60, 100, 0, 0);
        have(in("room 9"), 1, 1, 100, 0, 0);

        says(30, "behind (1) of this MINUTE that one is needed by a visitor: how many visitors have what they need (no CAT is ON it), how many have not");
        CatNeed comes = in("room 9;thing 4 1;cat 4 1 1", "lie 1 if minute=1");
        have(comes, 1, 1, 100, 1, 0);
        have(comes, 1, 2, 100, 1, 1);
        have(comes, 1, 3, 100, 1, 2);
        after(comes, 1);
        have(comes, 1, 1, 100, 0, 1);

        says(30, "each from now on, as all is; x goes on .. all together");
        CatNeed each = in("room 9;thing 4 1;cat 2 1 1", "lie 1");
        have(each, 1, 3, 100, 1, 2);
        have(each, 7, 3, 100, 7, 14);
        have(each, 10, 1, 100, 10, 0);
        have(each, 10, 2, 100, 10, 10);

        says(30, "NONE without these, or a ROOM");
        int[][] none = {{0, 1, 0}, {11, 1, 0}, {-1, 1, 0}, {LEAST, 1, 0}, {MOST, 1, 0}, {1, 0, 0}, {1, 61, 0}, {1, -1, 0}, {1, LEAST, 0},
            {1, MOST, 0}, {1, 1, -1}, {1, 1, 101}, {1, 1, LEAST}, {1, 1, MOST}};
        for (int[] a : none) {
            have(each, a[0], a[1], a[2], -1, -1);
        }
        for (int what : NO_WHAT) {
            due("visits(1, 1, 0, " + what + ")", each.visits(1, 1, 0, what), -1);
        }
        have(new CatNeed(), 1, 1, 0, -1, -1);
        due("count(12)", each.count(12), 0);
    }

    // ---- promise 31 ----

    private static void count() {
        says(31, "What 0: LONG, 1: THINGS, 2: CATS, 3: NEEDS, 4: RULES, 5: the RULE IN FORCE (NONE), 6: MINUTE, 7: NEEDS due in this MINUTE and not STRUCK, as bits,"
            + " 8: how often NEEDS were MET, 9: LOST, 10: NOTES, 11: ACTS that can be UNDONE, 12: x, 13: bytes of the TAPE");
        counts(new CatNeed(), 0, 0, 0, 0, 0, -1, 0, 0, 0, 0, 0, 0, 0, 0);
        counts(in("room 2"), 2, 0, 0, 0, 0, -1, 0, 0, 0, 0, 0, 0, 0, 0);
        CatNeed x = in("room 30" + ";thing 4 1".repeat(6) + ";cat 4 1 1".repeat(3) + ";need 0 1 0".repeat(4) + ";need 1 1 0".repeat(4));
        for (int rule = 0; rule < 6; rule++) {
            forced(x, "lie 1");
        }
        counts(x, 30, 6, 3, 8, 6, 5, 0, 255, 0, 0, 0, 0, 0, 0);
        after(x, 30);
        for (int i = 0; i < 10; i++) {
            x.note(0, 0, -1);
        }
        x.seed(MOST);
        for (int i = 0; i < 20; i++) {
            x.feed(0, 0, 0, 0, 0);
        }
        counts(x, 30, 6, 3, 8, 6, 5, 30, 255, 120, 120, 10, 20, MOST, 400);
        x.strike(0);
        x.strike(7);
        due("count(7)", x.count(7), 126);
        due("count(11)", x.count(11), 20);
        x.force(0);
        due("count(5)", x.count(5), 0);
        CatNeed y = in("room 2;thing 0 0;need 0 3 0;need 0 3 1;need 0 3 2;need 0 2 1");
        int[] needed = {1, 2 + 8, 4, 1 + 8, 2, 4 + 8, 1};
        for (int minute = 0; minute < needed.length; minute++) {
            due("count(7) at " + minute, y.count(7), needed[minute]);
            y.minute();
        }

        says(31, "NONE for others");
        for (int what : new int[] {-1, 14, 15, LEAST, MOST}) {
            due("count(" + what + ")", x.count(what), -1);
            due("count(" + what + ") of a new object", new CatNeed().count(what), -1);
        }
    }

    private static void counts(CatNeed x, int... want) {
        for (int what = 0; what < want.length; what++) {
            due("count(" + what + ")", x.count(what), want[what]);
        }
    }

    // ---- promises 32 and 33 ----

    private static void image() {
        says(32, "An IMAGE is made: the MINUTE .. IMAGES 0 to 3");
        CatNeed x = in(ROOM);
        for (int k = 0; k < 4; k++) {
            due("image(" + k + ")", x.image(k), k);
            x.minute();
        }
        for (int k = 3; k >= 0; k--) {
            due("back(" + k + ")", x.back(k), k);
            due("count(6)", x.count(6), k);
        }
        due("image(0), made again", after(x, 7).image(0), 7);
        due("back(3)", x.back(3), 3);
        due("back(0)", x.back(0), 7);
        due("no ACT: count(11)", x.count(11), 7);

        says(32, "NONE for another k");
        String before = seen(x);
        for (int k : new int[] {-1, 4, 32, -32, LEAST, MOST}) {
            due("image(" + k + ")", x.image(k), -1);
        }
        same("all", seen(x), before);

        says(32, "it is made also where nothing was told yet");
        CatNeed y = new CatNeed();
        due("image(3)", y.image(3), 0);
        y.seed(9);
        due("image(2)", y.image(2), 0);
        tell(y, ROOM).room();
        after(y, 3);
        y.note(1, 0, 0);
        forced(y, "lie 1");
        due("back(3)", y.back(3), 0);
        same("nothing told, but for RULES", seen(y), "count 0 0 0 0 1 -1 0 0 0 0 0 0 0 0");
        due("minute()", y.minute(), -1);
        due("undo()", y.undo(), -2);
        due("thing(0, 0)", y.thing(0, 0), -1);
        due("ruled(0)", y.ruled(0), -3);
        due("back(2)", y.back(2), 0);
        due("count(12)", y.count(12), 9);
    }

    private static void back() {
        says(33, "NONE, and nothing happens, if it was never made, or without it");
        CatNeed x = after(in(ROOM), 2);
        String before = seen(x);
        for (int k : new int[] {0, 1, 2, 3, 4, -1, 32, -32, LEAST, MOST}) {
            due("back(" + k + ")", x.back(k), -1);
        }
        same("all", seen(x), before);
        x.image(1);
        for (int k : new int[] {0, 2, 3, 4, -1, 33, -31}) {
            due("back(" + k + "), 1 alone being made", x.back(k), -1);
        }
        due("back(1)", x.back(1), 2);
        due("back(0) of a new object", new CatNeed().back(0), -1);

        says(33, "All is as in an IMAGE: the MINUTE .. all but the RULES and the TAPE, as it is (the RULE IN FORCE, what can be UNDONE, too)");
        CatNeed y = after(in("room 9;thing 4 1;thing 6 2;cat 2 2 1;cat 8 2 2;need 0 3 1;need 1 1 0", "lie 1 if thing=cat"), 3);
        y.strike(0);
        y.teach(0, 9);
        y.lift(1);
        y.move(1, 8);
        y.note(1, 0, 0);
        y.seed(99);
        y.image(2);
        before = seen(y);
        y.force(-1);
        y.move(1, 7);
        y.teach(0, 2);
        y.teach(1, 7);
        y.strike(0);
        y.strike(1);
        y.lift(0);
        after(y, 9);
        y.note(0, 0, 0);
        y.seed(1);
        due("by another NOTE: ruled(0)", y.ruled(0), 0);
        due("back(2)", y.back(2), 3);
        same("all", seen(y), before);
        due("the NOTE is as it was: ruled(0)", y.ruled(0), 2);
        int[] undone = {6, 5, 4, 3, 2, 1, 0, -2};
        for (int can : undone) {
            due("undo()", y.undo(), can);
        }
        due("thing(1, 0)", y.thing(1, 0), 6);
        due("count(6)", y.count(6), 0);
        due("gone back to again: back(2)", y.back(2), 3);
        same("all", seen(y), before);

        for (int[] other : new int[][] {{2, 0, 0}, {1, 1, 0}, {1, 0, 1}, {0, 0, 0}}) {
            // By none and by RULE 1 nothing is noted so; by RULE 0 it is.
            CatNeed notes = in("room 9;thing 4 1;thing 4 1;cat 4 1 1;cat 4 1 1", "lie 1 if cat=0 and thing=minute");
            for (int i = 0; i < 10; i++) {
                notes.note(1, 0, 0);
            }
            notes.image(0);
            rules(notes, 1, 0);
            notes.note(-1, 0, 0);
            for (int i = 0; i < 10; i++) {
                notes.note(other[0], other[1], other[2]);
            }
            rules(notes, 0, -2);
            notes.back(0);
            rules(notes, 1, 0);
            due("count(10)", notes.count(10), 10);
            // The tenth alone tells the two apart.
            CatNeed tenth = in("room 9;thing 4 1;thing 4 1;cat 4 1 1;cat 4 1 1", "lie 1 if cat=0 and thing=minute");
            for (int i = 0; i < 9; i++) {
                tenth.note(0, 0, -1);
            }
            tenth.note(1, 0, 0);
            tenth.image(0);
            tenth.note(-1, 0, 0);
            for (int i = 0; i < 10; i++) {
                tenth.note(other[0], other[1], other[2]);
            }
            tenth.back(0);
            rules(tenth, 1, 0);
        }

        says(33, "(the last CAT, THING and NEED are as they were, too)");
        CatNeed all = in("room 9" + ";thing 4 1".repeat(6) + ";cat 4 1 1".repeat(3) + ";need 5 1 0".repeat(8), "lie 1 if thing=5 and minute=1");
        after(all, 2);
        all.teach(2, 9);
        all.strike(7);
        all.image(1);
        before = seen(all);
        all.lift(2);
        all.lift(1);
        all.lift(0);
        all.move(5, 8);
        all.teach(2, 8);
        all.minute();
        all.strike(7);
        all.minute();
        due("back(1)", all.back(1), 2);
        same("all", seen(all), before);

        says(33, "gone back to, it is as it was (these stay)");
        CatNeed z = in(ROOM);
        z.image(0);
        forced(z, "lie 1");
        z.feed(1, 2, 3, 4, 5);
        z.image(1);
        due("back(0)", z.back(0), 0);
        due("RULES stay: count(4)", z.count(4), 1);
        due("none IN FORCE: count(5)", z.count(5), -1);
        due("the TAPE stays: count(13)", z.count(13), 20);
        due("force(0)", z.force(0), -1);
        due("back(1), made behind", z.back(1), 0);
        due("count(5)", z.count(5), 0);
        z.end(0);
        tell(z, "room 3;thing 1 1");
        z.room();
        due("back(0): the ROOM of the IMAGE", z.back(0), 0);
        due("LONG", z.count(0), 10);
        due("NEEDS", z.count(3), 3);

        says(33, "(all of the 20 that can be UNDONE are kept)");
        CatNeed w = after(in("room 9;thing 4 1;cat 0 1 1"), 33);
        w.image(0);
        after(w, 44);
        w.back(0);
        due("count(11)", w.count(11), 20);
        for (int i = 1; i <= 20; i++) {
            due("undo()", w.undo(), 20 - i);
            due("count(6)", w.count(6), 33 - i);
        }
        due("undo()", w.undo(), -2);
        due("back(0)", w.back(0), 33);
        w.minute();
        due("count(11)", w.count(11), 20);
        for (int i = 1; i <= 20; i++) {
            due("undo()", w.undo(), 20 - i);
            due("count(6)", w.count(6), 34 - i);
        }
    }

    public static void main(String[] args) {
        note();
        ruled();
        look();
        seed();
        visits();
        count();
        image();
        back();
        finish("edges of keeping");
    }
}
