/** The edges of promises 7 to 15, and of part II of the Terms: what is there, MINUTES and other ACTS. */
public final class ActEdgesTest extends Edges {
    // By hand, without a RULE: NEED 0 is LOST in MINUTE 4, the first that is.
    private static final String ROOM = "room 10;thing 2 5;thing 7 3;cat 0 2 4;cat 9 3 1;need 0 6 4;need 1 4 1;need 0 3 2";
    private static final String FULL = "room 30" + ";thing 29 50".repeat(6) + ";cat 29 9 9".repeat(3) + ";need 5 1 0".repeat(8);
    private static final int[] FAR_OUT = {-2, 99, 1 << 16, LEAST, MOST};

    private static void thing() {
        says(7, "Of a THING what 0: PLACE, 1: WORTH, 2: how often NEEDS of it were MET, 3: LOST, 4: CATS ON it, as bits");
        CatNeed x = after(in(ROOM), 5);
        int[][] want = {{2, 5, 1, 1, 1}, {7, 3, 1, 0, 0}};
        for (int thing = 0; thing < 2; thing++) {
            for (int what = 0; what < 5; what++) {
                due("thing(" + thing + ", " + what + ")", x.thing(thing, what), want[thing][what]);
            }
        }
        CatNeed y = in(FULL, "lie 1 if thing=5 and minute=2;lie 1 if thing=cat and minute<2");
        int[][] ons = {{0, 0, 0, 0, 0, 0}, {1, 2, 4, 0, 0, 0}, {1, 2, 4, 0, 0, 0}, {0, 0, 0, 0, 0, 7}};
        for (int minute = 0; minute < 4; minute++) {
            for (int thing = 0; thing < 6; thing++) {
                due("thing(" + thing + ", 4) at " + minute, y.thing(thing, 4), ons[minute][thing]);
            }
            y.minute();
        }
        due("thing(5, 0)", y.thing(5, 0), 29);
        due("thing(5, 1)", y.thing(5, 1), 50);
        due("MET of all its NEEDS: thing(5, 2)", y.thing(5, 2), 16);
        due("LOST of all its NEEDS: thing(5, 3)", y.thing(5, 3), 16);
        due("thing(4, 2)", y.thing(4, 2), 0);

        says(7, "NONE without these");
        for (int what : new int[] {-1, 5, LEAST, MOST}) {
            due("thing(0, " + what + ")", x.thing(0, what), -1);
        }
        for (int what = 0; what < 5; what++) {
            due("thing(2, " + what + ") of two", x.thing(2, what), -1);
            due("thing(-1, " + what + ")", x.thing(-1, what), -1);
            due("thing(6, " + what + ") of six", y.thing(6, what), -1);
            due("thing(0, " + what + ") of none", in("room 5").thing(0, what), -1);
        }
        for (int thing : FAR_OUT) {
            due("thing(" + thing + ", 0)", y.thing(thing, 0), -1);
        }
    }

    private static void cat() {
        says(8, "Of a CAT what 0: PLACE, 1: PACE, 2: KNOWS, 3: the THING it is ON (NONE: nothing)");
        CatNeed x = in(ROOM);
        int[][][] want = {{{0, 2, 4, -1}, {9, 3, 1, -1}}, {{2, 2, 4, 0}, {7, 3, 1, 1}}, {{4, 2, 4, -1}, {4, 3, 1, -1}}};
        for (int minute = 0; minute < 3; minute++) {
            for (int cat = 0; cat < 2; cat++) {
                for (int what = 0; what < 4; what++) {
                    due("cat(" + cat + ", " + what + ") at " + minute, x.cat(cat, what), want[minute][cat][what]);
                }
            }
            x.minute();
        }
        CatNeed y = after(in(FULL, "lie 1 if thing=5"), 1);
        due("cat(2, 0), the last", y.cat(2, 0), 29);
        due("cat(2, 1)", y.cat(2, 1), 9);
        due("cat(2, 2)", y.cat(2, 2), 9);
        due("cat(2, 3)", y.cat(2, 3), 5);

        says(8, "-2 without these");
        for (int what : new int[] {-1, 4, LEAST, MOST}) {
            due("cat(0, " + what + ")", x.cat(0, what), -2);
        }
        for (int what = 0; what < 4; what++) {
            due("cat(2, " + what + ") of two", x.cat(2, what), -2);
            due("cat(-1, " + what + ")", x.cat(-1, what), -2);
            due("cat(3, " + what + ") of three", y.cat(3, what), -2);
            due("cat(0, " + what + ") of none", in("room 5;thing 1 1").cat(0, what), -2);
        }
        for (int cat : FAR_OUT) {
            due("cat(" + cat + ", 0)", y.cat(cat, 0), -2);
        }
    }

    private static void need() {
        says(9, "Of a NEED what 0: the THING, 1: EVERY, 2: AT, 3: 1 if it is STRUCK, else 0, 4: how often it was MET, 5: LOST");
        CatNeed x = after(in(ROOM), 5);
        x.strike(2);
        int[][] want = {{0, 6, 4, 0, 0, 1}, {1, 4, 1, 0, 1, 0}, {0, 3, 2, 1, 1, 0}};
        for (int need = 0; need < 3; need++) {
            for (int what = 0; what < 6; what++) {
                due("need(" + need + ", " + what + ")", x.need(need, what), want[need][what]);
            }
        }
        CatNeed y = in("room 2;thing 0 0;thing 1 0" + ";need 0 1 0".repeat(7) + ";need 1 30 29");
        y.strike(7);
        int[] last = {1, 30, 29, 1, 0, 0};
        for (int what = 0; what < 6; what++) {
            due("need(7, " + what + ")", y.need(7, what), last[what]);
            due("need(6, " + what + ")", y.need(6, what), what == 1 ? 1 : 0);
        }

        says(9, "NONE without these");
        for (int what : new int[] {-1, 6, LEAST, MOST}) {
            due("need(0, " + what + ")", x.need(0, what), -1);
        }
        for (int what = 0; what < 6; what++) {
            due("need(3, " + what + ") of three", x.need(3, what), -1);
            due("need(-1, " + what + ")", x.need(-1, what), -1);
            due("need(8, " + what + ") of eight", y.need(8, what), -1);
            due("need(0, " + what + ") of none", in("room 5;thing 1 1").need(0, what), -1);
        }
        for (int need : FAR_OUT) {
            due("need(" + need + ", 0)", y.need(need, 0), -1);
        }
    }

    // ---- promise 10: a MINUTE ----

    private static void minute() {
        says(10, "A MINUTE: NEEDS that are LOST in it, as bits");
        CatNeed x = in(ROOM);
        int[] lost = {0, 0, 0, 0, 1};
        for (int i = 0; i < lost.length; i++) {
            due("minute() at " + i, x.minute(), lost[i]);
            due("count(6)", x.count(6), i + 1);
        }
        CatNeed y = in("room 5;thing 1 1;thing 1 1;cat 1 1 1" + ";need 0 1 0;need 1 1 0".repeat(4), "lie 1 if thing=1-minute");
        due("minute(): of THING 1", y.minute(), 0xaa);
        due("minute(): of THING 0", y.minute(), 0x55);
        CatNeed z = in(FULL, "lie thing");
        due("minute(): all", z.minute(), 255);
        z.strike(0);
        due("minute(): all but the first", z.minute(), 254);
        z.strike(7);
        due("minute(): all but the first and the last", z.minute(), 126);
        due("minute() of a ROOM of nothing", in("room 2").minute(), 0);

        says(10, "NONE, and nothing happens, without a ROOM");
        CatNeed none = new CatNeed();
        forced(none, "lie 1");
        String before = seen(none);
        due("minute()", none.minute(), -1);
        same("all", seen(none), before);
        tell(none, "room 1");
        none.room();
        due("minute(), when a ROOM was refused", none.minute(), -1);
        tell(none, "room 2");
        none.room();
        due("minute(), when one was told", none.minute(), 0);

        says(10, "MINUTE is 1 more");
        CatNeed w = in("room 2;thing 0 1;need 0 1 0");
        for (int i = 0; i < 500; i++) {
            w.minute();
        }
        due("count(6)", w.count(6), 500);
        due("need(0, 4)", w.need(0, 4), 500);
    }

    private static void dueMinutes() {
        says(10, "A NEED is due in MINUTES whose rest by EVERY is AT");
        for (int every : new int[] {1, 2, 3, 29, 30}) {
            for (int at : new int[] {0, every / 2, every - 1}) {
                CatNeed x = in("room 2;thing 0 1;need 0 " + every + " " + at);
                int met = 0;
                for (int minute = 0; minute <= 61; minute++) {
                    due("count(7) at " + minute + ", EVERY " + every + " AT " + at, x.count(7), minute % every == at ? 1 : 0);
                    x.minute();
                    met += minute % every == at ? 1 : 0;
                    due("need(0, 4) behind " + minute, x.need(0, 4), met);
                }
            }
        }
    }

    private static void order() {
        says(10, "CATS by numbers, each by how all is then");
        // CAT 1 sees where CAT 0 has gone in this same MINUTE; CAT 0 does not see where CAT 1 will.
        CatNeed x = in("room 5;thing 1 1;thing 3 1;cat 1 4 1;cat 1 4 1;cat 1 4 1", "lie 9-8*on");
        x.minute();
        due("cat(0, 3)", x.cat(0, 3), 0);
        due("cat(1, 3)", x.cat(1, 3), 1);
        due("cat(2, 3)", x.cat(2, 3), 0);
        CatNeed y = in("room 5;thing 1 1;cat 1 4 1;cat 1 4 1;cat 1 4 1", "lie 1 if on+cat=2*cat");
        y.minute();
        due("cat(0, 3)", y.cat(0, 3), 0);
        due("cat(1, 3)", y.cat(1, 3), 0);
        due("cat(2, 3)", y.cat(2, 3), 0);
        CatNeed z = in("room 5;thing 1 1;cat 1 4 1;cat 1 4 1;cat 1 4 1", "lie 1 if on>0 or cat=2");
        z.minute();
        due("cat(0, 3)", z.cat(0, 3), -1);
        due("cat(1, 3)", z.cat(1, 3), -1);
        due("cat(2, 3)", z.cat(2, 3), 0);
        // All CATS have gone when the first NEED is looked at; NEEDS of it wait for no MINUTE more.
        CatNeed w = in("room 5;thing 4 1;cat 0 4 1;cat 0 4 1;need 0 1 0;need 0 1 0", "lie 1 if cat=1 and lost=0");
        due("minute(): both are LOST", w.minute(), 3);
    }

    /** Which of two THINGS at hand CAT 0 is ON behind a MINUTE. */
    private static void wants(String rule, int want) {
        due("\"" + rule + "\": ahead(0, 1, 1)", in("room 9;thing 4 7;thing 4 11;cat 4 9 3", rule).ahead(0, 1, 1), want);
    }

    private static void wanting() {
        says(10, "it wants that THING for which the SUM .. is greatest, if it is above 0, of several the least (none, if none is such)");
        wants("lie 1", 0);
        wants("lie 0", -1);
        wants("lie 0-1", -1);
        wants("lie thing", 1);
        wants("lie 0-thing", -1);
        wants("lie 1-thing", 0);
        wants("lie 7+thing-thing", 0);
        wants("lie 7+thing", 1);
        wants("lie 8-thing", 0);
        due("of none", in("room 9;cat 4 9 3", "lie 1").ahead(0, 1, 0), 4);
        CatNeed six = in("room 9" + ";thing 4 7".repeat(6) + ";cat 4 9 3", "lie thing+1");
        due("the last of six", six.ahead(0, 1, 1), 5);
        forced(six, "lie 1+thing%5");
        due("4 is greatest", six.ahead(0, 1, 1), 4);
        forced(six, "lie 1+thing%4");
        due("3 is greatest", six.ahead(0, 1, 1), 3);
        forced(six, "lie 1+thing%3");
        due("2 and 5 are greatest", six.ahead(0, 1, 1), 2);

        says(10, "the RULE IN FORCE's first CLAUSE without a TEST, or whose TEST holds (0 without)");
        wants("lie 0;lie 1", -1);
        wants("lie 1;lie 9*thing", 0);
        wants("lie 0-5 if thing=0;lie 1", 1);
        wants("lie 0 if thing=0;lie 5 if thing=1;lie 9", 1);
        wants("lie 1 if thing=1;lie 0;lie 9", 1);
        wants("lie 9 if thing=5", -1);
        wants("lie 9 if thing=0 and thing=1;lie 8 if thing=1", 1);
        wants("lie 9 if 1=0" + ";lie 9 if 1=0".repeat(10) + ";lie thing", 1);

        says(10, "all goes round in 64 bits");
        String two60 = "32768*32768*32768*32768";
        wants("lie " + two60 + "*4", 0);
        wants("lie " + two60 + "*8", -1);
        wants("lie " + two60 + "*8-1", 0);
        wants("lie " + two60 + "*16", -1);
        wants("lie " + two60 + "*16+1", 0);
        wants("lie " + two60 + "*4+" + two60 + "*4", -1);
        wants("lie " + two60 + "*4-1+" + two60 + "*4", 0);
        wants("lie 0-" + two60 + "*4-" + two60 + "*4-1", 0);
        wants("lie " + two60 + "*8-thing", 1);
        wants("lie 1 if " + two60 + "*8<0", 0);
        wants("lie 1 if " + two60 + "*8=0-" + two60 + "*8", 0);
        wants("lie 1 if 0-1<" + two60 + "*4", 0);

        says(10, "/ is towards 0, % its rest, both 0 by 0");
        wants("lie 1 if 7/2=3 and 7%2=1 and 6/2=3 and 6%2=0 and 1/2=0 and 1%2=1 and 0/2=0 and 0%2=0", 0);
        wants("lie 1 if " + two60 + "*8/3*3=" + two60 + "*8+2 and " + two60 + "*8%3=0-2", 0);
        wants("lie 1 if 7/0=0 and 7%0=0 and 0/0=0 and 0%0=0 and " + two60 + "*8/0=0 and " + two60 + "*8%0=0", 0);
        wants("lie 1 if 7/far=0 and 7%far=0 and thing/thing=thing", 0);
        wants("lie 1 if 7/1=7 and 7%1=0", 0);

        says(10, "SUM: TERM { (+ or -) TERM }. TERM: VALUE { (* or / or %) VALUE }");
        wants("lie 1 if 9-3-2=4 and 9-3+2=8 and 9+3-2=10 and 1-2+1=0", 0);
        wants("lie 1 if 20/3*2=12 and 20*2/3=13 and 20%6*2=4 and 20*2%6=4 and 40/4/5=2 and 29%10%4=1 and 29/10%4=2", 0);
        wants("lie 1 if 1+2*3=7 and 2*3+1=7 and 9-2*3-1=2 and 1+8/4=3 and 9-8%5+1=7 and 2*3+4*5-6/2=23", 0);
        wants("lie 1 if 00007=7 and 99999+1=2*50000", 0);
    }

    private static void tests() {
        says(10, "SIGN one of < <= = >= >");
        String[] signs = {"<", "<=", "=", ">=", ">"};
        boolean[][] so = {{true, true, false, false, false}, {false, true, true, true, false}, {false, false, false, true, true}};
        for (int i = 0; i < signs.length; i++) {
            for (int left = 4; left <= 6; left++) {
                wants("lie 1 if " + left + signs[i] + "5", so[left - 4][i] ? 0 : -1);
            }
            wants("lie 1 if thing" + signs[i] + "0", so[1][i] ? 0 : so[2][i] ? 1 : -1);
        }

        says(10, "TEST: PART { or PART }. PART: FACT { and FACT }. FACT: not FACT | [ TEST ]");
        String[] facts = {"1=0", "1=1"};
        for (int a = 0; a < 2; a++) {
            wants("lie 1 if not " + facts[a], a == 0 ? 0 : -1);
            wants("lie 1 if not not " + facts[a], a == 1 ? 0 : -1);
            wants("lie 1 if [" + facts[a] + "]", a == 1 ? 0 : -1);
            for (int b = 0; b < 2; b++) {
                wants("lie 1 if " + facts[a] + " and " + facts[b], a + b == 2 ? 0 : -1);
                wants("lie 1 if " + facts[a] + " or " + facts[b], a + b > 0 ? 0 : -1);
                wants("lie 1 if not " + facts[a] + " and " + facts[b], a == 0 && b == 1 ? 0 : -1);
                wants("lie 1 if not [" + facts[a] + " and " + facts[b] + "]", a + b < 2 ? 0 : -1);
                for (int c = 0; c < 2; c++) {
                    boolean orLast = a + b == 2 || c == 1;
                    boolean orFirst = a == 1 || b + c == 2;
                    String[] f = {facts[a], facts[b], facts[c]};
                    wants("lie 1 if " + f[0] + " and " + f[1] + " or " + f[2], orLast ? 0 : -1);
                    wants("lie 1 if " + f[0] + " or " + f[1] + " and " + f[2], orFirst ? 0 : -1);
                    wants("lie 1 if " + f[0] + " or " + f[1] + " or " + f[2], a + b + c > 0 ? 0 : -1);
                    wants("lie 1 if " + f[0] + " and " + f[1] + " and " + f[2], a + b + c == 3 ? 0 : -1);
                    wants("lie 1 if " + f[0] + " and [" + f[1] + " or " + f[2] + "]", a == 1 && b + c > 0 ? 0 : -1);
                    wants("lie 1 if [" + f[0] + " or " + f[1] + "] and " + f[2], a + b > 0 && c == 1 ? 0 : -1);
                }
            }
        }
        wants("lie 1 if " + "[".repeat(10) + "thing=1" + "]".repeat(10), 1);
        wants("lie 1 if " + "not ".repeat(10) + "thing=1", 1);
        wants("lie 1 if " + "not ".repeat(9) + "thing=1", 0);
        wants("lie 1 if [1=0 or [1=0 or [1=0 or [1=0 or [1=0 or [1=0 or [1=0 or [1=0 or [1=0 or [1=0 or 1=1 and thing=1]]]]]]]]]]", 1);
    }

    /** Whether a TEST holds for this CAT and this THING, which it is not ON yet, as all is now. */
    private static void holds(CatNeed x, int cat, int thing, String test) {
        forced(x, "lie 1 if cat=" + cat + " and thing=" + thing + " and " + test);
        boolean goes = x.ahead(cat, 1, 0) != x.cat(cat, 0) || x.ahead(cat, 1, 1) == thing;
        due(test + " of CAT " + cat + " and THING " + thing, goes ? 1 : 0, 1);
    }

    private static void words() {
        says(10, "cat, thing, far (how many PLACES it lies from the CAT)");
        String ends = "room 30;thing 29 50;thing 0 0;cat 0 9 1;cat 29 1 9;cat 1 1 1";
        CatNeed x = in(ends);
        holds(x, 0, 0, "far=29");
        holds(x, 0, 1, "far=0");
        holds(x, 1, 0, "far=0");
        holds(x, 1, 1, "far=29");
        holds(x, 2, 1, "far=1");
        holds(x, 2, 0, "far=28");

        says(10, "WORDS .. of a CAT and a THING: .. knows, pace, worth");
        CatNeed y = in(ends);
        holds(y, 0, 0, "pace=9 and knows=1 and worth=50");
        holds(y, 1, 1, "pace=1 and knows=9 and worth=0");
        y.teach(0, 9);
        holds(y, 0, 1, "pace=9 and knows=9 and worth=0");

        says(10, "on (how many other CATS are ON it)");
        CatNeed z = in("room 5;thing 1 1;thing 1 1;cat 1 1 1;cat 1 1 1;cat 1 1 1");
        holds(z, 2, 0, "on=0");
        forced(z, "lie 1");
        z.minute();
        due("all are ON THING 0", z.thing(0, 4), 7);
        z.lift(2);
        holds(z, 2, 0, "on=2");
        holds(z, 2, 1, "on=0");
        z.lift(1);
        holds(z, 2, 0, "on=1");
        CatNeed alone = after(in("room 5;thing 1 1;thing 1 1;cat 1 1 1", "lie 1"), 1);
        forced(alone, "lie 1 if thing=1 and on=0 or thing=0 and on=1");
        due("it is no other one itself", alone.ahead(0, 1, 1), 1);

        says(10, "met, lost (how often NEEDS of it were MET, LOST so far, together)");
        CatNeed w = in("room 5;thing 1 1;thing 3 1;thing 3 1;cat 1 9 1;need 0 1 0;need 0 1 0;need 1 1 0;need 0 2 1");
        holds(w, 0, 1, "met=0 and lost=0");
        forced(w, "lie 0");
        after(w, 2);
        holds(w, 0, 0, "met=5 and lost=0");
        holds(w, 0, 1, "met=2 and lost=0");
        holds(w, 0, 2, "met=0 and lost=0");
        CatNeed v = after(in("room 5;thing 1 1;thing 3 1;cat 1 9 1;need 0 1 0;need 0 1 0;need 1 1 0;need 0 2 1", "lie 1"), 2);
        v.lift(0);
        holds(v, 0, 0, "met=0 and lost=5");
        holds(v, 0, 1, "met=2 and lost=0");

        says(10, "WORDS .. of a CAT and a THING: .. minute");
        CatNeed u = in(ends);
        holds(u, 0, 0, "minute=0");
        forced(u, "lie 0");
        after(u, 400);
        holds(u, 0, 0, "minute=400");

        says(10, "due (in how many MINUTES it is needed next by NEEDS not STRUCK, 0 in this one; 99 if not in this one and the 59 behind it)");
        CatNeed t = in("room 5;thing 1 1;thing 3 1;cat 2 1 1;need 0 30 29;need 0 30 0");
        holds(t, 0, 0, "due=0");
        holds(t, 0, 1, "due=99");
        t.strike(1);
        holds(t, 0, 0, "due=29");
        t.strike(0);
        holds(t, 0, 0, "due=99");
        CatNeed s = in("room 5;thing 1 1;thing 3 1;cat 2 1 1;need 0 30 29;need 0 7 3");
        forced(s, "lie 0");
        after(s, 29);
        holds(s, 0, 0, "due=0");
        forced(s, "lie 0");
        after(s, 1);
        holds(s, 0, 0, "due=1");
        s.strike(1);
        holds(s, 0, 0, "due=29");
    }

    private static void foreseeing() {
        says(10, "without a RULE the THING of the least NEED, not STRUCK, that is due in MINUTE + KNOWS (none, if none is)");
        for (int knows = 1; knows <= 9; knows++) {
            CatNeed x = in("room 9;thing 4 1;cat 4 1 " + knows + ";need 0 30 12");
            for (int minute = 0; minute < 14; minute++) {
                due("cat(0, 3) at " + minute + ", KNOWS " + knows, x.cat(0, 3), minute > 12 - knows ? 0 : -1);
                x.minute();
            }
        }
        CatNeed y = in("room 9;thing 4 1;thing 4 1;thing 4 1;cat 4 1 1;need 2 9 2;need 1 2 1;need 0 9 1");
        due("the least of two", y.ahead(0, 1, 1), 1);
        y.strike(1);
        due("not STRUCK", y.ahead(0, 1, 1), 0);
        y.strike(2);
        due("none is", y.ahead(0, 1, 1), -1);
        due("none is, then one", y.ahead(0, 2, 1), 2);
        // 30 * 30 beyond a NEED's first MINUTE, too: what is due in 1, when the MINUTE is the last of EVERY.
        CatNeed z = in("room 9;thing 4 1;cat 4 1 1;need 0 30 0");
        due("behind 29 MINUTES", z.ahead(0, 29, 1), -1);
        due("behind 30 MINUTES", z.ahead(0, 30, 1), 0);
    }

    private static void going() {
        says(10, "It goes towards that THING's PLACE, PACE PLACES at most; is it there then, it is ON that THING, else ON nothing");
        for (int pace = 1; pace <= 9; pace++) {
            for (int way = pace - 1; way <= pace + 1; way++) {
                CatNeed up = after(in("room 30;thing " + (10 + way) + " 1;cat 10 " + pace + " 1", "lie 1"), 1);
                due("PLACE, PACE " + pace + ", up " + way, up.cat(0, 0), 10 + Math.min(way, pace));
                due("ON, PACE " + pace + ", up " + way, up.cat(0, 3), way <= pace ? 0 : -1);
                CatNeed down = after(in("room 30;thing " + (10 - way) + " 1;cat 10 " + pace + " 1", "lie 1"), 1);
                due("PLACE, PACE " + pace + ", down " + way, down.cat(0, 0), 10 - Math.min(way, pace));
                due("ON, PACE " + pace + ", down " + way, down.cat(0, 3), way <= pace ? 0 : -1);
            }
        }
        CatNeed ends = in("room 30;thing 29 1;thing 0 1;cat 0 9 1;cat 29 9 1", "lie 1 if thing=cat");
        int[][] places = {{0, 29}, {9, 20}, {18, 11}, {27, 2}, {29, 0}, {29, 0}};
        for (int i = 0; i < places.length; i++) {
            due("PLACE of CAT 0 at " + i, ends.cat(0, 0), places[i][0]);
            due("PLACE of CAT 1 at " + i, ends.cat(1, 0), places[i][1]);
            due("ON of CAT 0 at " + i, ends.cat(0, 3), i < 4 ? -1 : 0);
            due("ON of CAT 1 at " + i, ends.cat(1, 3), i < 4 ? -1 : 1);
            ends.minute();
        }
        CatNeed x = after(in("room 9;thing 4 1;thing 4 1;thing 6 1;cat 4 1 1", "lie 1 if thing=0 and minute=0 or thing=1 and minute=1 or thing=2 and minute>1"), 1);
        due("ON the first at its PLACE", x.cat(0, 3), 0);
        x.minute();
        due("ON another at its PLACE", x.cat(0, 3), 1);
        x.minute();
        due("ON nothing on its way", x.cat(0, 3), -1);
        due("on its way", x.cat(0, 0), 5);
        x.minute();
        due("there", x.cat(0, 3), 2);

        says(10, "One that wants none stays as it is");
        CatNeed y = after(in("room 9;thing 4 1;thing 8 1;cat 2 2 1;cat 2 2 1", "lie 1 if minute=0 and thing=cat"), 1);
        for (int i = 0; i < 3; i++) {
            due("its PLACE", y.cat(0, 0), 4);
            due("ON the THING", y.cat(0, 3), 0);
            due("its PLACE, on its way", y.cat(1, 0), 4);
            due("ON nothing, at a THING's PLACE", y.cat(1, 3), -1);
            y.minute();
        }
    }

    private static void meeting() {
        says(10, "NEEDS by numbers, not STRUCK, that are due in this MINUTE: MET, if no CAT is ON the THING, else LOST");
        CatNeed x = in("room 9;thing 4 1;thing 4 1;cat 4 1 1;cat 4 1 1;cat 4 1 1;need 0 1 0;need 1 1 0;need 0 2 1;need 0 1 0", "lie 1 if thing=0");
        x.strike(3);
        due("minute(): under three", x.minute(), 1);
        due("LOST once: need(0, 5)", x.need(0, 5), 1);
        due("not LOST, MET: need(0, 4)", x.need(0, 4), 0);
        due("another THING at the PLACE: need(1, 4)", x.need(1, 4), 1);
        due("not due: need(2, 5)", x.need(2, 5), 0);
        due("STRUCK: need(3, 5)", x.need(3, 5), 0);
        due("STRUCK: need(3, 4)", x.need(3, 4), 0);
        x.strike(3);
        due("minute(): no more STRUCK", x.minute(), 13);
        CatNeed y = in("room 9;thing 4 1;cat 3 1 1;cat 4 1 1;need 0 1 0", "lie 1 if cat=0 and minute>0");
        due("minute(): at its PLACE, not ON it", y.minute(), 0);
        due("need(0, 4)", y.need(0, 4), 1);
        due("minute(): ON it in this MINUTE", y.minute(), 1);
        CatNeed z = in("room 9;thing 4 1;thing 5 1;cat 4 1 1;need 0 1 0", "lie 1 if minute=0 and thing=0 or minute=1 and thing=1");
        due("minute(): ON it", z.minute(), 1);
        due("minute(): gone in this MINUTE", z.minute(), 0);
    }

    // ---- the other ACTS ----

    private static void lift() {
        says(11, "LIFT: the THING it was ON");
        CatNeed x = after(in(FULL, "lie 1 if thing=5-cat"), 1);
        for (int cat = 2; cat >= 0; cat--) {
            due("lift(" + cat + ")", x.lift(cat), 5 - cat);
            due("cat(" + cat + ", 0)", x.cat(cat, 0), 0);
            due("cat(" + cat + ", 3)", x.cat(cat, 3), -1);
            due("thing(" + (5 - cat) + ", 4)", x.thing(5 - cat, 4), 0);
            due("count(11)", x.count(11), 4 - cat);
        }
        CatNeed y = after(in("room 5;thing 0 1;thing 0 1;cat 0 1 1;cat 0 1 1", "lie 1"), 1);
        due("lift(1), at PLACE 0", y.lift(1), 0);
        due("thing(0, 4): the other one is ON it still", y.thing(0, 4), 1);
        due("count(6): no MINUTE", y.count(6), 1);

        says(11, "NONE, and nothing happens, without these");
        CatNeed z = in(ROOM);
        String before = seen(z);
        for (int cat : new int[] {0, 1, 2, 3, -1, LEAST, MOST}) {
            due("lift(" + cat + "), ON nothing or none such", z.lift(cat), -1);
        }
        same("all", seen(z), before);
        z.minute();
        due("lift(1)", z.lift(1), 1);
        before = seen(z);
        due("lift(1) again", z.lift(1), -1);
        due("lift(2)", z.lift(2), -1);
        due("lift(-1)", z.lift(-1), -1);
        same("all", seen(z), before);
        due("lift(0)", z.lift(0), 0);
        due("undo()", z.undo(), 2);
        due("lift(3) of three", x.lift(3), -1);
        due("lift(0) without a ROOM", new CatNeed().lift(0), -1);
    }

    private static void move() {
        says(12, "MOVE: where it lay");
        CatNeed x = in("room 30;thing 0 1;thing 29 1" + ";thing 5 1".repeat(4));
        due("move(0, 29)", x.move(0, 29), 0);
        due("move(1, 0)", x.move(1, 0), 29);
        due("move(5, 29)", x.move(5, 29), 5);
        due("move(5, 28)", x.move(5, 28), 29);
        due("thing(0, 0)", x.thing(0, 0), 29);
        due("thing(1, 0)", x.thing(1, 0), 0);
        due("thing(5, 0)", x.thing(5, 0), 28);
        due("thing(4, 0)", x.thing(4, 0), 5);
        due("count(11)", x.count(11), 4);

        says(12, "NONE, and nothing happens, without these");
        String before = seen(x);
        int[][] none = {{0, 30}, {0, -1}, {0, LEAST}, {0, MOST}, {6, 1}, {-1, 1}, {LEAST, 1}, {MOST, 1}, {6, -1}};
        for (int[] a : none) {
            due("move(" + a[0] + ", " + a[1] + ")", x.move(a[0], a[1]), -1);
        }
        same("all", seen(x), before);
        due("move(0, 2) of LONG 2", in("room 2;thing 0 1").move(0, 2), -1);
        due("move(0, 1) of LONG 2", in("room 2;thing 0 1").move(0, 1), 0);
        due("move(0, 0) without a ROOM", new CatNeed().move(0, 0), -1);
        due("move(0, 1) without THINGS", in("room 2").move(0, 1), -1);

        says(12, "MOVE (a THING on which no CAT is lies at another PLACE)");
        CatNeed y = in("room 9;thing 4 1;thing 4 1;cat 4 1 1;cat 4 1 1", "lie 1 if thing=0");
        due("move(0, 4), where it lies", y.move(0, 4), -1);
        due("count(11)", y.count(11), 0);
        y.minute();
        before = seen(y);
        due("move(0, 5), two ON it", y.move(0, 5), -1);
        y.lift(0);
        due("move(0, 5), one ON it", y.move(0, 5), -1);
        y.undo();
        same("all", seen(y), before);
        due("move(1, 5), none ON it, two at its PLACE", y.move(1, 5), 4);
        y.lift(0);
        y.lift(1);
        due("move(0, 5), none ON it", y.move(0, 5), 4);
        due("cat(0, 0): the CAT stays", y.cat(0, 0), 0);
    }

    private static void strike() {
        says(13, "STRIKE: 1 if it is STRUCK then, else 0");
        CatNeed x = in("room 5;thing 1 1" + ";need 0 1 0".repeat(8));
        for (int need = 0; need < 8; need++) {
            due("strike(" + need + ")", x.strike(need), 1);
            due("need(" + need + ", 3)", x.need(need, 3), 1);
            due("count(7)", x.count(7), 255 & -2 << need);
        }
        due("strike(7) again", x.strike(7), 0);
        due("strike(0) again", x.strike(0), 0);
        due("strike(0) once more", x.strike(0), 1);
        due("count(7)", x.count(7), 128);
        due("count(11)", x.count(11), 11);

        says(13, "NONE, and nothing happens, without that NEED");
        String before = seen(x);
        for (int need : new int[] {8, 32, -1, -32, LEAST, MOST}) {
            due("strike(" + need + ")", x.strike(need), -1);
        }
        same("all", seen(x), before);
        CatNeed y = in(ROOM);
        due("strike(3) of three", y.strike(3), -1);
        due("strike(2) of three", y.strike(2), 1);
        due("count(11)", y.count(11), 1);
        due("strike(0) of none", in("room 5;thing 1 1").strike(0), -1);
        due("strike(0) without a ROOM", new CatNeed().strike(0), -1);
    }

    private static void teach() {
        says(14, "TEACH: what it KNEW");
        CatNeed x = in("room 5;cat 1 1 5;cat 1 1 1;cat 1 1 9");
        due("teach(0, 1)", x.teach(0, 1), 5);
        due("teach(0, 9)", x.teach(0, 9), 1);
        due("teach(0, 8)", x.teach(0, 8), 9);
        due("teach(2, 1)", x.teach(2, 1), 9);
        due("cat(0, 2)", x.cat(0, 2), 8);
        due("cat(1, 2)", x.cat(1, 2), 1);
        due("cat(2, 2)", x.cat(2, 2), 1);
        due("count(11)", x.count(11), 4);

        says(14, "NONE, and nothing happens, without these (another one)");
        String before = seen(x);
        int[][] none = {{0, 8}, {1, 1}, {0, 0}, {0, 10}, {0, -1}, {0, LEAST}, {0, MOST}, {3, 5}, {-1, 5}, {LEAST, 5}, {MOST, 5}};
        for (int[] a : none) {
            due("teach(" + a[0] + ", " + a[1] + ")", x.teach(a[0], a[1]), -1);
        }
        same("all", seen(x), before);
        due("teach(2, 3) of two", in(ROOM).teach(2, 3), -1);
        due("teach(1, 3) of two", in(ROOM).teach(1, 3), 1);
        due("teach(0, 3) without a ROOM", new CatNeed().teach(0, 3), -1);
    }

    private static void undo() {
        says(15, "The last ACT is UNDONE: how many more can be");
        CatNeed x = after(in("room 9;thing 4 1;thing 6 2;cat 2 2 1;cat 8 2 2;need 0 3 1;need 1 1 0", "lie 1 if thing=cat"), 2);
        String[] was = new String[6];
        was[0] = seen(x);
        due("move(0, 7): under a CAT, no ACT", x.move(0, 7), -1);
        x.lift(0);
        was[1] = seen(x);
        x.move(0, 7);
        was[2] = seen(x);
        x.strike(1);
        was[3] = seen(x);
        x.teach(1, 9);
        was[4] = seen(x);
        x.minute();
        for (int i = 4; i >= 0; i--) {
            due("undo() to " + i, x.undo(), i + 2);
            same("all, " + i + " behind the second MINUTE", seen(x), was[i]);
        }
        due("undo()", x.undo(), 1);
        due("undo()", x.undo(), 0);
        due("count(6)", x.count(6), 0);

        says(15, "-2, and nothing happens: none can");
        CatNeed none = after(in(ROOM), 1);
        none.note(1, 0, 0);
        due("undo()", none.undo(), 0);
        String before = seen(none);
        due("undo()", none.undo(), -2);
        due("undo()", none.undo(), -2);
        same("all", seen(none), before);
        due("undo() without a ROOM", new CatNeed().undo(), -2);
        due("undo() in a new ROOM", in(ROOM).undo(), -2);

        says(15, "The last 20 ACTS can be UNDONE, the last first");
        for (int acts : new int[] {1, 19, 20, 21, 40, 41}) {
            CatNeed y = after(in("room 9;thing 4 1;cat 0 1 1;need 0 2 1"), acts);
            int can = Math.min(acts, 20);
            due("count(11) behind " + acts, y.count(11), can);
            for (int i = 1; i <= can; i++) {
                due("undo(), the " + i + "th of " + acts, y.undo(), can - i);
                due("count(6)", y.count(6), acts - i);
            }
            due("undo(), none more", y.undo(), -2);
            due("count(6)", y.count(6), acts - can);
            y.minute();
            due("count(11), one ACT behind that", y.count(11), 1);
        }
        CatNeed z = in("room 9;thing 4 1");
        for (int i = 0; i < 25; i++) {
            z.move(0, i % 2);
        }
        for (int i = 24; i >= 5; i--) {
            z.undo();
            due("thing(0, 0) behind " + i, z.thing(0, 0), (i - 1) % 2);
        }
        due("undo()", z.undo(), -2);

        says(15, "(each ACT of the last CAT, THING and NEED is UNDONE, too)");
        CatNeed all = in("room 9" + ";thing 4 1".repeat(6) + ";cat 4 1 1".repeat(3) + ";need 5 1 0".repeat(8), "lie 1 if thing=5 and minute=1");
        String begin = seen(all);
        all.teach(2, 9);
        all.strike(7);
        all.strike(7);
        all.move(5, 8);
        all.move(5, 4);
        all.minute();
        due("MET: need(7, 4)", all.need(7, 4), 1);
        due("minute()", all.minute(), 255);
        due("LOST: need(7, 5)", all.need(7, 5), 1);
        due("lift(2)", all.lift(2), 5);
        due("undo()", all.undo(), 7);
        due("cat(2, 0)", all.cat(2, 0), 4);
        due("cat(2, 3)", all.cat(2, 3), 5);
        for (int can = 6; can >= 0; can--) {
            due("undo()", all.undo(), can);
            due("thing(5, 0)", all.thing(5, 0), can == 4 ? 8 : 4);
        }
        same("all", seen(all), begin);

        says(15, "(what is no ACT is not UNDONE: the RULE IN FORCE, NOTES, x, the TAPE, RULES)");
        CatNeed w = after(in(ROOM), 1);
        forced(w, "lie 1");
        w.note(1, 0, 0);
        w.seed(5);
        w.feed(1, 2, 3, 4, 5);
        due("undo()", w.undo(), 0);
        due("count(4)", w.count(4), 1);
        due("count(5)", w.count(5), 0);
        due("count(10)", w.count(10), 1);
        due("count(12)", w.count(12), 5);
        due("count(13)", w.count(13), 20);
    }

    public static void main(String[] args) {
        thing();
        cat();
        need();
        minute();
        dueMinutes();
        order();
        wanting();
        tests();
        words();
        foreseeing();
        going();
        meeting();
        lift();
        move();
        strike();
        teach();
        undo();
        finish("edges of acts");
    }
}
