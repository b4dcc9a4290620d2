/** The edges of promises 16 to 25, and of part III of the Terms as far as they ask: what would be. */
public final class AskingEdgesTest extends Edges {
    private static final String ROOM = "room 10;thing 2 5;thing 7 3;cat 0 2 4;cat 9 3 1;need 0 6 4;need 1 4 1;need 0 3 2";
    private static final int[] NO_WHAT = {-1, 2, 3, 4, LEAST, MOST};

    private static void nothingChanges() {
        says(16, "By what is asked nothing changes");
        CatNeed x = after(in(ROOM), 3);
        x.note(2, 1, -1);
        x.seed(4711);
        x.strike(1);
        String before = seen(x);
        for (int what = 0; what < 2; what++) {
            x.ahead(0, 100, what);
            x.ahead(0, 100, what + 2);
            x.shut(60, what);
            x.moved(0, 60, what);
            x.tray(40, what);
            x.knowing(0, what);
            x.rests(0, 1, 20, what);
            x.ring(what);
            x.ruled(what);
            x.look(60, what);
            x.visits(10, 60, 50, what);
            x.due(what);
            x.served(what);
            x.pence(9999, what);
        }
        same("all, behind each question", seen(x), before);
        due("undo()", x.undo(), 3);
        x = after(in(ROOM), 3);
        before = seen(x);
        int refused = x.ahead(2, 1, 0) + x.ahead(0, 101, 0) + x.ahead(0, 1, 4) + x.due(2) + x.served(3) + x.shut(61, 0) + x.shut(1, 2)
            + x.moved(2, 1, 0) + x.moved(0, 61, 0) + x.tray(41, 0) + x.knowing(2, 0) + x.rests(0, 2, 1, 0) + x.rests(0, 1, 21, 0)
            + x.ring(2) + x.pence(10000, 0) + x.ruled(2) + x.look(61, 0) + x.visits(11, 1, 0, 0) + x.visits(1, 61, 0, 0) + x.visits(1, 1, 101, 0);
        due("all that are refused, together", refused, -5 * 2 - 3 - 14);
        same("all, behind what was refused", seen(x), before);
        due("ahead(1, 2, 0)", x.ahead(1, 2, 0), 5);
        due("undo()", x.undo(), 2);
        // Nor does one question change what another one answers.
        CatNeed y = after(in(ROOM), 3);
        y.note(2, 1, -1);
        y.seed(4711);
        due("ahead(1, 2, 0) alone", y.ahead(1, 2, 0), 5);
        y.shut(60, 0);
        due("ahead(1, 2, 0) behind shut", y.ahead(1, 2, 0), 5);
        y.moved(0, 60, 0);
        due("ahead(1, 2, 0) behind moved", y.ahead(1, 2, 0), 5);
        y.tray(40, 0);
        due("ahead(0, 2, 3) behind tray", y.ahead(0, 2, 3), 1);
        y.rests(0, 1, 20, 0);
        due("ahead(1, 2, 0) behind rests", y.ahead(1, 2, 0), 5);
        y.knowing(1, 0);
        due("ahead(1, 2, 0) behind knowing", y.ahead(1, 2, 0), 5);
        due("minute()", y.minute(), 0);
        due("minute()", y.minute(), 1);
        CatNeed z = in("room 9;thing 4 1;thing 4 1;cat 4 1 1;cat 4 1 1", "lie 1 if thing=cat");
        z.note(1, 1, 1);
        z.shut(60, 0);
        due("ruled(0) behind shut", z.ruled(0), 1);
        z.shut(60, 0);
        due("knowing(1, 0) behind shut", z.knowing(1, 0), 9);
        z.shut(60, 0);
        z.note(-1, 0, 0);
        due("look(1, 1) behind shut", z.look(1, 1), 1);
    }

    // ---- promise 16 ----

    private static void ahead() {
        says(16, "AHEAD n MINUTES (0 to 100)");
        CatNeed x = in("room 30;thing 29 1;cat 0 1 1;need 0 1 0", "lie 1");
        for (int n : new int[] {0, 1, 27, 28, 29, 30, 99, 100}) {
            due("ahead(0, " + n + ", 0)", x.ahead(0, n, 0), Math.min(n, 29));
            due("ahead(0, " + n + ", 1)", x.ahead(0, n, 1), n < 29 ? -1 : 0);
            due("ahead(0, " + n + ", 2)", x.ahead(0, n, 2), Math.min(n, 28));
            due("ahead(0, " + n + ", 3)", x.ahead(0, n, 3), Math.max(0, n - 28));
        }
        says(16, "how often NEEDS were MET so far; how often LOST");
        after(x, 40);
        due("ahead(0, 0, 2)", x.ahead(0, 0, 2), 28);
        due("ahead(0, 0, 3)", x.ahead(0, 0, 3), 12);
        due("ahead(0, 100, 3)", x.ahead(0, 100, 3), 112);
        CatNeed eight = in("room 2;thing 0 0" + ";need 0 1 0".repeat(8));
        due("ahead(0, 100, 2) of eight", eight.ahead(0, 100, 2), 800);

        says(16, "MINUTES go on by the RULE IN FORCE");
        CatNeed y = in("room 9;thing 4 1;thing 6 1;cat 5 1 1;need 1 2 1", "lie 1 if thing=0");
        due("by a RULE: ahead(0, 1, 1)", y.ahead(0, 1, 1), 0);
        y.force(-1);
        due("by none: ahead(0, 1, 1)", y.ahead(0, 1, 1), 1);
        forced(y, "lie 0");
        due("by another: ahead(0, 1, 1)", y.ahead(0, 1, 1), -1);

        says(16, "-2 without these, or a ROOM");
        for (int n : new int[] {-1, 101, LEAST, MOST}) {
            for (int what = 0; what < 4; what++) {
                due("ahead(0, " + n + ", " + what + ")", x.ahead(0, n, what), -2);
            }
        }
        for (int what : new int[] {-1, 4, LEAST, MOST}) {
            due("ahead(0, 0, " + what + ")", x.ahead(0, 0, what), -2);
        }
        CatNeed three = in("room 9" + ";cat 1 1 1".repeat(3));
        for (int cat : new int[] {-1, 3, LEAST, MOST}) {
            due("ahead(" + cat + ", 0, 0)", three.ahead(cat, 0, 0), -2);
            due("ahead(" + cat + ", 0, 1)", three.ahead(cat, 0, 1), -2);
            due("no CAT is asked for this: ahead(" + cat + ", 0, 2)", three.ahead(cat, 0, 2), 0);
            due("no CAT is asked for this: ahead(" + cat + ", 0, 3)", three.ahead(cat, 0, 3), 0);
        }
        due("ahead(2, 0, 0) of three", three.ahead(2, 0, 0), 1);
        due("ahead(2, 100, 1) of three", three.ahead(2, 100, 1), -1);
        due("ahead(0, 1, 0) without CATS", eight.ahead(0, 1, 0), -2);
        due("ahead(0, 1, 2) without CATS", eight.ahead(0, 1, 2), 8);
        for (int what = 0; what < 4; what++) {
            due("ahead(0, 0, " + what + ") without a ROOM", new CatNeed().ahead(0, 0, what), -2);
        }
    }

    // ---- promises 17 and 18 ----

    private static void dueThings() {
        says(17, "the MINUTE, this one the first, of 60, in which it is needed next");
        for (int every : new int[] {1, 2, 7, 30}) {
            for (int at : new int[] {0, every - 1}) {
                CatNeed x = in("room 2;thing 0 0;need 0 " + every + " " + at);
                for (int minute = 0; minute <= 62; minute++) {
                    int next = minute;
                    while (next % every != at) {
                        next++;
                    }
                    due("due(0) at " + minute + ", EVERY " + every + " AT " + at, x.due(0), next);
                    x.minute();
                }
            }
        }
        CatNeed y = in("room 2" + ";thing 0 0".repeat(6) + ";need 5 30 29;need 5 30 9;need 4 1 0;need 5 30 20");
        due("due(5), of several", y.due(5), 9);
        due("due(4)", y.due(4), 0);

        says(17, "(by NEEDS not STRUCK)");
        y.strike(1);
        due("due(5), one STRUCK", y.due(5), 20);
        y.strike(3);
        due("due(5), two STRUCK", y.due(5), 29);

        says(17, "-2: in none of these");
        y.strike(0);
        due("due(5), all STRUCK", y.due(5), -2);
        due("due(0), no NEED of it", y.due(0), -2);
        y.strike(0);
        due("due(5), one no more STRUCK", y.due(5), 29);

        says(17, "NONE without that THING");
        for (int thing : new int[] {6, -1, LEAST, MOST}) {
            due("due(" + thing + ") of six", y.due(thing), -1);
        }
        due("due(2) of two", in(ROOM).due(2), -1);
        due("due(0) of none", in("room 2").due(0), -1);
        due("due(0) without a ROOM", new CatNeed().due(0), -1);
    }

    /** CAT 0 is ON THING 0 up to this MINUTE, then on another one. */
    private static CatNeed lyingUpTo(int minute, String need) {
        return in("room 9;thing 4 1;thing 4 1;cat 4 1 1;need " + need,
            "lie 1 if thing=0 and minute<=" + minute + " or thing=1 and minute>" + minute);
    }

    private static void served() {
        says(18, "the first MINUTE, this one the first, of 100, in which it is MET");
        due("this one", in("room 9;thing 4 1;need 0 9 0").served(0), 0);
        due("the next", in("room 9;thing 4 1;need 0 9 1").served(0), 1);
        due("the last of its own", in("room 9;thing 4 1;need 0 30 29").served(0), 29);
        for (int last : new int[] {0, 1, 50, 97, 98}) {
            due("LOST up to " + last, lyingUpTo(last, "0 1 0").served(0), last + 1);
        }
        CatNeed x = lyingUpTo(99, "0 1 0");
        due("LOST in all of 100", x.served(0), -2);
        x.minute();
        due("LOST in all but the last", x.served(0), 100);
        x.minute();
        due("LOST in all but the last two", x.served(0), 100);
        due("due in the last alone", lyingUpTo(98, "0 30 9").served(0), 99);
        due("due in the one behind", lyingUpTo(98, "0 30 10").served(0), -2);

        says(18, "-2: in none of these");
        CatNeed y = in(ROOM);
        y.strike(1);
        due("STRUCK", y.served(1), -2);
        y.strike(1);
        due("no more STRUCK", y.served(1), 1);
        due("under a CAT", in("room 9;thing 4 1;cat 4 1 1;need 0 1 0", "lie 1").served(0), -2);
        due("all else MET", in("room 9;thing 4 1;thing 4 1;cat 4 1 1;need 0 1 0;need 1 1 0", "lie 1").served(1), 0);

        says(18, "NONE without that NEED");
        for (int need : new int[] {3, -1, 32, LEAST, MOST}) {
            due("served(" + need + ") of three", y.served(need), -1);
        }
        CatNeed eight = in("room 9;thing 4 1" + ";need 0 1 0".repeat(8));
        due("served(7) of eight", eight.served(7), 0);
        due("served(8) of eight", eight.served(8), -1);
        due("served(0) of none", in("room 9;thing 4 1").served(0), -1);
        due("served(0) without a ROOM", new CatNeed().served(0), -1);
    }

    // ---- promises 19 and 20 ----

    private static void which(CatNeed x, int n, int cat, int much) {
        due("shut(" + n + ", 0)", x.shut(n, 0), cat);
        due("shut(" + n + ", 1)", x.shut(n, 1), much);
    }

    private static void shut() {
        says(19, "SHUT for n MINUTES (1 to 60)");
        CatNeed x = in("room 9;thing 4 50;cat 4 1 1;need 0 30 29;need 0 30 0", "lie 1");
        which(x, 1, 0, 50);
        which(x, 29, 0, 50);
        which(x, 30, 0, 100);
        which(x, 59, 0, 150);
        which(x, 60, 0, 200);
        which(in("room 9;thing 4 50" + ";need 0 1 0".repeat(8)), 60, -1, 24000);

        says(19, "of several none, then the least");
        which(in("room 9;cat 1 1 1;cat 1 1 1"), 60, -1, 0);
        which(in("room 9;thing 4 5;need 0 2 1"), 1, -1, 0);
        which(in("room 9;thing 4 5;cat 0 1 1;need 0 3 2"), 6, -1, 10);
        String three = "room 9;thing 4 5;thing 4 5;thing 4 6;cat 4 1 1;cat 4 1 1;cat 4 1 1;need 0 1 0;need 1 1 0;need 2 1 0";
        which(in(three, "lie 1 if thing=cat"), 10, 2, 60);
        which(in(three, "lie 1 if thing=cat and thing<2"), 10, 0, 110);
        which(in(three, "lie 1 if thing=cat and thing=1"), 10, 1, 160);
        which(in(three, "lie 1 if thing=0"), 10, -1, 110);
        which(in(three, "lie 1 if thing=1 and cat>0 or thing=0 and cat=0"), 10, 0, 110);

        says(19, "the CAT that had best not be there from now on");
        CatNeed y = after(in(three, "lie 1 if thing=cat and thing<2"), 1);
        which(y, 1, 0, 11);
        CatNeed lies = after(in("room 9;thing 4 5;cat 4 1 1;need 0 1 0", "lie 1 if minute=0"), 1);
        which(lies, 1, 0, 5);
        CatNeed third = after(in(three, "lie 1 if thing=2 and cat=2 and minute=0"), 1);
        which(third, 1, 2, 16);
        // The other sees that it is not ON its THING, and takes its place.
        CatNeed z = after(in("room 9;thing 4 5;cat 4 1 1;cat 4 1 1;need 0 1 0", "lie 1 if on=0"), 1);
        due("CAT 0 alone is ON it", z.thing(0, 4), 1);
        which(z, 5, -1, 0);

        says(19, "-2 without these, or a ROOM");
        for (int n : new int[] {0, 61, -1, LEAST, MOST}) {
            which(x, n, -2, -2);
        }
        for (int what : NO_WHAT) {
            due("shut(1, " + what + ")", x.shut(1, what), -2);
        }
        which(new CatNeed(), 1, -2, -2);
    }

    private static void where(CatNeed x, int thing, int n, int place, int much) {
        due("moved(" + thing + ", " + n + ", 0)", x.moved(thing, n, 0), place);
        due("moved(" + thing + ", " + n + ", 1)", x.moved(thing, n, 1), much);
    }

    private static void moved() {
        says(20, "MOVED of a THING for n MINUTES (1 to 60)");
        CatNeed x = in("room 30;thing 0 50;cat 0 1 1;need 0 1 0", "lie 1");
        where(x, 0, 1, 2, 50);
        where(x, 0, 2, 3, 100);
        where(x, 0, 27, 28, 27 * 50);
        where(x, 0, 28, 29, 28 * 50);
        where(x, 0, 60, 29, 28 * 50);
        where(in("room 30;thing 29 50;cat 29 1 1;need 0 1 0", "lie 1"), 0, 60, 0, 28 * 50);
        CatNeed y = in("room 2;thing 1 50" + ";need 0 30 29;need 0 30 0".repeat(4));
        where(y, 0, 29, 1, 200);
        where(y, 0, 30, 1, 400);
        where(y, 0, 59, 1, 600);
        where(y, 0, 60, 1, 800);
        due("moved(0, 60, 1) of eight", in("room 9;thing 4 50" + ";need 0 1 0".repeat(8)).moved(0, 60, 1), 24000);

        says(20, "(where it does, too; .. of several where it does, then the least");
        where(in("room 9;thing 8 5;thing 0 4;need 0 1 0"), 0, 10, 8, 50);
        where(in("room 9;thing 0 5;cat 8 1 1;need 0 1 0", "lie 1"), 0, 7, 0, 35);
        where(in("room 9;thing 4 5;cat 4 1 1;need 0 1 0", "lie 1"), 0, 1, 0, 5);
        where(in("room 9;thing 0 5;cat 4 9 1;need 0 1 0", "lie 1"), 0, 5, 0, 0);
        where(in("room 9;thing 3 5;cat 4 9 1;need 0 1 0", "lie 1"), 0, 5, 3, 0);

        says(20, "a CAT that is ON it, is not any more, if it is another PLACE");
        CatNeed z = after(in("room 9;thing 0 5;cat 0 1 1;need 0 1 0", "lie 1 if minute=0"), 1);
        where(z, 0, 1, 1, 5);
        where(z, 0, 60, 1, 300);
        CatNeed two = after(in("room 9;thing 4 5;thing 4 3;cat 4 1 1;cat 4 1 1;need 0 1 0;need 1 1 0", "lie 1 if minute=0 and thing=cat"), 1);
        where(two, 0, 2, 0, 10);
        where(two, 1, 2, 0, 6);
        CatNeed both = after(in("room 9;thing 4 5;cat 4 1 1;cat 4 1 1;cat 4 1 1;need 0 1 0", "lie 1 if minute=0"), 1);
        where(both, 0, 2, 0, 10);

        says(20, "NONE without these");
        for (int n : new int[] {0, 61, -1, LEAST, MOST}) {
            where(x, 0, n, -1, -1);
        }
        for (int thing : new int[] {1, -1, LEAST, MOST}) {
            where(x, thing, 1, -1, -1);
        }
        for (int what : NO_WHAT) {
            due("moved(0, 1, " + what + ")", x.moved(0, 1, what), -1);
        }
        due("moved(5, 1, 0) of six", in("room 9" + ";thing 4 1".repeat(6)).moved(5, 1, 0), 4);
        due("moved(6, 1, 0) of six", in("room 9" + ";thing 4 1".repeat(6)).moved(6, 1, 0), -1);
        where(in("room 2"), 0, 1, -1, -1);
        where(new CatNeed(), 0, 1, -1, -1);
    }

    // ---- promise 21 ----

    private static void fewest(CatNeed x, int n, int many, int set) {
        due("tray(" + n + ", 0)", x.tray(n, 0), many);
        due("tray(" + n + ", 1)", x.tray(n, 1), set);
    }

    private static void tray() {
        says(21, "TRAY for n MINUTES (1 to 40)");
        CatNeed x = in("room 9;thing 4 1;cat 4 1 1;need 0 30 0;need 0 30 9", "lie 1 if minute>9");
        fewest(x, 1, 0, 0);
        fewest(x, 30, 0, 0);
        fewest(x, 31, 1, 1);
        fewest(x, 39, 1, 1);
        fewest(x, 40, 2, 3);
        CatNeed first = in("room 9;thing 4 1;cat 4 1 1;need 0 30 0", "lie 1");
        fewest(first, 1, 1, 1);

        says(21, "the fewest NEEDS that are not STRUCK to be STRUCK from now on, so that none is LOST in these: how many");
        fewest(in("room 2"), 40, 0, 0);
        fewest(in("room 2;thing 0 0" + ";need 0 1 0".repeat(8)), 40, 0, 0);
        CatNeed eight = in("room 9;thing 4 1;cat 4 1 1" + ";need 0 1 0".repeat(8), "lie 1");
        fewest(eight, 1, 8, 255);
        eight.strike(7);
        fewest(eight, 40, 7, 127);
        eight.strike(0);
        fewest(eight, 40, 6, 126);
        for (int need = 1; need < 7; need++) {
            eight.strike(need);
        }
        fewest(eight, 40, 0, 0);
        CatNeed lost = after(in("room 9;thing 4 1;thing 8 1;cat 4 9 1;need 0 9 0", "lie 1 if thing=0 and minute=0 or thing=1 and minute>0"), 1);
        due("LOST so far", lost.count(9), 1);
        fewest(lost, 8, 0, 0);

        // NEED 2 calls the CAT, for a MINUTE behind these: one is fewer than the two that it lies under.
        CatNeed caller = in("room 9;thing 4 1;cat 4 1 8;need 0 30 2;need 0 30 3;need 0 30 8");
        fewest(caller, 8, 1, 4);
        caller.strike(2);
        fewest(caller, 8, 0, 0);
        caller.strike(2);
        caller.strike(0);
        fewest(caller, 8, 1, 2);

        says(21, "of several sets the least as bits");
        // The CAT comes behind two that are MET: any two may be left.
        CatNeed y = in("room 9;thing 4 1;cat 4 1 1;need 0 9 3;need 0 9 2;need 0 9 1;need 0 9 0", "lie 1 if met>1");
        fewest(y, 9, 2, 3);
        y.strike(0);
        fewest(y, 9, 1, 2);
        y.strike(0);
        y.strike(2);
        fewest(y, 9, 1, 1);
        y.strike(1);
        fewest(y, 9, 0, 0);

        says(21, "NONE without these, or a ROOM");
        for (int n : new int[] {0, 41, -1, LEAST, MOST}) {
            fewest(x, n, -1, -1);
        }
        for (int what : NO_WHAT) {
            due("tray(1, " + what + ")", x.tray(1, what), -1);
        }
        fewest(new CatNeed(), 1, -1, -1);
    }

    // ---- promise 22 ----

    private static void numbers(CatNeed x, int cat, int many, int least) {
        due("knowing(" + cat + ", 0)", x.knowing(cat, 0), many);
        due("knowing(" + cat + ", 1)", x.knowing(cat, 1), least);
    }

    private static CatNeed noted(String room, int[]... notes) {
        CatNeed x = in(room);
        for (int[] note : notes) {
            x.note(note[0], note[1], note[2]);
        }
        return x;
    }

    private static void knowing() {
        says(22, "numbers 1 to 9 as KNOWS, in place of what the text told, by which from the begin on .. all NOTES are so: how many; the least");
        // What a CAT that knows k foresees in MINUTE 9 - k, it is ON at the begin of the next one.
        String room = "room 9;thing 4 1;cat 4 1 5;cat 0 1 1;need 0 30 9";
        numbers(in(room), 0, 9, 1);
        for (int n = 1; n <= 9; n++) {
            numbers(noted(room, new int[] {n, 0, 0}), 0, n, 10 - n);
            numbers(noted(room, new int[] {n, 0, -1}), 0, 9 - n, n == 9 ? -2 : 1);
        }
        numbers(noted(room, new int[] {6, 0, 0}, new int[] {5, 0, -1}), 0, 1, 4);
        numbers(noted(room, new int[] {0, 0, -1}), 0, 9, 1);
        numbers(noted(room, new int[] {60, 0, 0}), 0, 9, 1);

        says(22, "-2: there is none");
        numbers(noted(room, new int[] {0, 0, 0}), 0, 0, -2);
        numbers(noted(room, new int[] {60, 0, -1}), 0, 0, -2);
        numbers(noted(room, new int[] {5, 0, 0}, new int[] {6, 0, -1}), 0, 0, -2);

        says(22, "by the RULE IN FORCE, all else as the text told it");
        CatNeed x = noted(room, new int[] {2, 0, 0}, new int[] {1, 0, -1});
        numbers(x, 0, 1, 8);
        numbers(x, 1, 0, -2);
        x.move(0, 8);
        x.strike(0);
        x.teach(0, 1);
        x.teach(1, 9);
        after(x, 9);
        numbers(x, 0, 1, 8);
        forced(x, "lie knows-3 if minute>0");
        numbers(x, 0, 6, 4);
        forced(x, "lie 1");
        numbers(x, 0, 0, -2);
        x.force(-1);
        CatNeed other = noted(room, new int[] {9, 1, -1}, new int[] {6, 0, 0}, new int[] {5, 0, -1});
        numbers(other, 0, 1, 4);
        // CAT 0 KNOWS 5, as the text told: by this the NOTES of it are not so.
        numbers(other, 1, 0, -2);

        says(22, "NONE without these");
        for (int cat : new int[] {2, -1, LEAST, MOST}) {
            numbers(x, cat, -1, -1);
        }
        for (int what : NO_WHAT) {
            due("knowing(0, " + what + ")", x.knowing(0, what), -1);
        }
        numbers(in("room 9" + ";cat 1 1 1".repeat(3)), 2, 9, 1);
        numbers(in("room 9" + ";cat 1 1 1".repeat(3)), 3, -1, -1);
        numbers(in("room 2"), 0, -1, -1);
        numbers(new CatNeed(), 0, -1, -1);
    }

    // ---- promise 23 ----

    private static void twos(CatNeed x, int one, int other, int n, int many, int first, int second) {
        String call = "rests(" + one + ", " + other + ", " + n + ", ";
        due(call + "0)", x.rests(one, other, n, 0), many);
        due(call + "1)", x.rests(one, other, n, 1), first);
        due(call + "2)", x.rests(one, other, n, 2), second);
    }

    private static void rests() {
        says(23, "RESTS of two CATS for n MINUTES (1 to 20)");
        String room = "room 9;thing 4 1;cat 4 1 1;cat 4 1 1;cat 4 1 1";
        CatNeed x = in(room, "lie 1 if minute=19 and knows=5");
        twos(x, 0, 1, 1, 25, 1, 1);
        twos(x, 0, 1, 19, 25, 1, 1);
        twos(x, 0, 1, 20, 1, 5, 5);
        twos(in(room, "lie 1 if minute=0 and knows=3"), 0, 1, 1, 1, 3, 3);

        says(23, "each KNOWS 1, 3, 5, 7 or 9 from now on");
        for (int knows = 1; knows <= 9; knows++) {
            boolean odd = knows % 2 == 1;
            twos(in("room 9;thing 4 1;cat 4 1 2;cat 4 1 4;need 0 30 " + knows), 0, 1, 1, odd ? 1 : 25, odd ? knows : 1, odd ? knows : 1);
        }

        says(23, "twos by which neither would have more by another one: how many; the first (by the first one, then the second one)");
        CatNeed far = in("room 30;thing 4 1;thing 8 1;cat 20 1 1;cat 4 1 1;cat 4 1 1;need 0 30 9");
        twos(far, 0, 1, 1, 5, 1, 9);
        twos(far, 1, 0, 1, 5, 9, 1);
        twos(far, 1, 2, 1, 1, 9, 9);
        twos(far, 2, 1, 1, 1, 9, 9);
        CatNeed two = in("room 30;thing 4 1;thing 4 1;cat 4 1 1;cat 4 1 1;need 0 30 7;need 1 30 3");
        twos(two, 0, 1, 1, 4, 3, 3);

        // CAT 1 stays in MINUTE 1 if both know 1, else neither gains by any other number.
        CatNeed row = in("room 30;thing 1 1;thing 1 1;thing 29 1;cat 1 1 1;cat 1 1 1",
            "lie 9 if minute=0 and thing=1/knows;lie 9 if minute=1 and thing=1/knows and on*thing>=cat;lie 5 if minute=1 and thing=2");
        twos(row, 0, 1, 2, 21, 1, 1);
        twos(row, 1, 0, 2, 21, 1, 1);
        // CAT 0 has more by what CAT 1 KNOWS, by nothing of its own; CAT 1 has as much by any number.
        CatNeed lent = in("room 9;thing 4 1;thing 4 1;cat 4 1 1;cat 4 1 1",
            "lie 1 if cat=1 and minute=0 and [thing=0 and knows=3 or thing=1 and not knows=3];lie 1 if cat=0 and minute=1 and thing=0 and on>0");
        twos(lent, 0, 1, 2, 25, 1, 1);
        twos(lent, 1, 0, 2, 25, 1, 1);

        says(23, "-2: there is none");
        CatNeed none = in("room 30;thing 1 1;thing 1 1;thing 29 1;cat 1 1 1;cat 1 1 1",
            "lie 9 if minute=0 and thing=1/knows;lie 9 if minute=1 and thing=1/knows and on+cat=1;lie 5 if minute=1 and thing=2");
        twos(none, 0, 1, 1, 25, 1, 1);
        twos(none, 0, 1, 2, 0, -2, -2);

        says(23, "each has in how many of these it is ON a THING behind (1), and twice how many NEEDS of what it is ON are LOST in these");
        String when = "knows=1 and minute<2 or knows=3 and minute=3 or knows=5 and minute<3";
        String away = "knows=1 and minute>1 or knows=5 and minute>2";
        String rule = "lie 1 if cat=0 and [thing=0 and [" + when + "] or thing=1 and [" + away + "]]";
        // Without a NEED it has 2, 1, 3, 0, 0; by one that is LOST in MINUTE 3 it has 2, 3, 3, 0, 0; by two 2, 5, 3, 0, 0.
        String begin = "room 9;thing 4 1;thing 8 1;cat 4 1 1;cat 0 1 1";
        twos(in(begin, rule), 0, 1, 4, 5, 5, 1);
        twos(in(begin + ";need 0 30 3", rule), 0, 1, 4, 10, 3, 1);
        twos(in(begin + ";need 0 30 3;need 0 30 3", rule), 0, 1, 4, 5, 3, 1);
        twos(in(begin + ";need 1 30 3", rule), 0, 1, 4, 5, 5, 1);

        CatNeed full = in("room 9" + ";thing 4 1".repeat(6) + ";cat 4 1 1".repeat(3) + ";need 5 1 0".repeat(8), "lie 1 if thing=5 and knows=9");
        twos(full, 1, 2, 20, 1, 9, 9);

        says(23, "NONE without these (unlike)");
        for (int[] cats : new int[][] {{0, 0}, {1, 1}, {2, 2}, {0, 3}, {3, 0}, {0, -1}, {-1, 0}, {LEAST, 0}, {0, MOST}, {-1, -1}}) {
            twos(x, cats[0], cats[1], 1, -1, -1, -1);
        }
        twos(x, 2, 0, 1, 25, 1, 1);
        for (int n : new int[] {0, 21, -1, LEAST, MOST}) {
            twos(x, 0, 1, n, -1, -1, -1);
        }
        for (int what : new int[] {-1, 3, LEAST, MOST}) {
            due("rests(0, 1, 1, " + what + ")", x.rests(0, 1, 1, what), -1);
        }
        twos(in("room 9;cat 1 1 1"), 0, 1, 1, -1, -1, -1);
        twos(new CatNeed(), 0, 1, 1, -1, -1, -1);
    }

    // ---- promise 24 ----

    private static void rings(CatNeed x, int minute, int later) {
        due("ring(0)", x.ring(0), minute);
        due("ring(1)", x.ring(1), later);
    }

    /** CATS go one behind the other, a PLACE in each MINUTE up to this one. */
    private static CatNeed goingUpTo(int last) {
        return in("room 30;thing 29 1;cat 0 1 1;cat 0 1 1;cat 0 1 1",
            "lie 1 if cat=0 and minute<29 or cat=1 and minute>28 and minute<58 or cat=2 and minute>57 and minute<" + last);
    }

    private static void ring() {
        says(24, "the first MINUTE, this one the first, of 60");
        rings(in("room 2"), 0, 1);
        rings(after(in("room 2"), 7), 7, 1);
        rings(goingUpTo(58), 58, 1);
        rings(goingUpTo(59), 59, 1);
        rings(goingUpTo(60), -2, -2);
        rings(after(goingUpTo(60), 1), 60, 1);

        says(24, "at the begin of a later one, 60 MINUTES from now at most");
        CatNeed x = in("room 2;thing 0 0;need 0 30 0;need 0 20 0;need 0 9 0");
        rings(x, -2, -2);
        x.strike(2);
        rings(x, 0, 60);
        rings(after(x, 1), 1, 60);
        rings(in("room 2;thing 0 0;need 0 9 8;need 0 7 0"), -2, -2);
        for (int way = 0; way <= 6; way++) {
            CatNeed going = in("room 9;thing " + way + " 0;cat 0 1 1;need 0 8 0;need 0 7 0", "lie far");
            // It is there at the begin of this MINUTE; 56 MINUTES later is 60 from now at most, or is not.
            rings(going, way <= 4 ? way : -2, way <= 4 ? 56 : -2);
        }

        says(24, "all CATS are where they are, and ON what they are");
        CatNeed y = in("room 9;thing 4 1;thing 4 1;cat 4 1 1", "lie thing*minute%3+1");
        rings(y, 1, 3);
        CatNeed back = in("room 9;thing 4 1;thing 5 1;cat 4 1 1;cat 4 1 1", "lie 1 if cat=1 and thing=minute%2");
        rings(back, 1, 2);
        for (int on = 0; on < 6; on++) {
            // It goes from where it is ON a THING to the next PLACE, where it is ON nothing, and back.
            CatNeed step = in("room 30" + ";thing 4 1".repeat(6) + ";cat 4 1 1;cat 0 1 1", "lie 1 if cat=0 and thing=" + on);
            rings(step, 1, 1);
            CatNeed steps = in("room 30" + (";thing 29 1".repeat(on) + ";thing 4 1" + ";thing 29 1".repeat(5 - on)) + ";cat 4 1 1;cat 0 1 1",
                "lie 1 if cat=0 and [minute%2=0 and thing=" + on + " or minute%2=1 and thing=" + (on + 1) % 6 + "]");
            rings(steps, 1, 2);
        }
        CatNeed lifted = after(in("room 9;thing 0 1;cat 0 1 1", "lie 1 if minute=0 or minute=5"), 1);
        rings(lifted, 1, 1);
        lifted.lift(0);
        rings(lifted, 1, 1);

        says(24, "each NEED that is not STRUCK is as far from being due; how much later the first such is");
        CatNeed z = in("room 9;thing 4 1;need 0 6 5;need 0 4 0;need 0 5 4");
        rings(z, 0, 60);
        z.strike(2);
        rings(z, 0, 12);
        z.strike(0);
        rings(z, 0, 4);
        z.strike(1);
        rings(z, 0, 1);
        for (int every = 1; every <= 30; every++) {
            rings(in("room 2;thing 0 0;need 0 " + every + " 0"), 0, every);
        }

        says(24, "-2: there is none. NONE for others, or without a ROOM");
        rings(in("room 2;thing 0 0;need 0 30 29;need 0 29 0"), -2, -2);
        for (int what : NO_WHAT) {
            due("ring(" + what + ")", x.ring(what), -1);
        }
        rings(new CatNeed(), -1, -1);
    }

    // ---- promise 25 ----

    private static void parts(CatNeed x, int much, int... parts) {
        for (int thing = 0; thing < parts.length; thing++) {
            due("pence(" + much + ", " + thing + ")", x.pence(much, thing), parts[thing]);
        }
    }

    private static void pence() {
        says(25, "PENCE (0 to 9999) among THINGS .. each the part downwards; what is left, one each, to those whose part lost most by that, of several the least first");
        CatNeed x = after(in("room 9;thing 1 5;thing 2 3;thing 3 1;thing 4 1;need 0 1 0;need 1 1 0;need 2 1 0;need 3 9 8"), 1);
        parts(x, 0, 0, 0, 0, 0);
        parts(x, 1, 1, 0, 0, 0);
        parts(x, 2, 1, 1, 0, 0);
        parts(x, 3, 2, 1, 0, 0);
        parts(x, 4, 2, 1, 1, 0);
        parts(x, 5, 3, 2, 0, 0);
        parts(x, 8, 4, 3, 1, 0);
        parts(x, 9, 5, 3, 1, 0);
        parts(x, 10, 6, 3, 1, 0);
        parts(x, 9998, 5554, 3333, 1111, 0);
        parts(x, 9999, 5555, 3333, 1111, 0);
        CatNeed six = after(in("room 9" + ";thing 1 50".repeat(6) + ";need 0 1 0;need 1 1 0;need 2 1 0;need 3 1 0;need 4 1 0;need 5 1 0"), 1);
        parts(six, 5, 1, 1, 1, 1, 1, 0);
        parts(six, 6, 1, 1, 1, 1, 1, 1);
        parts(six, 7, 2, 1, 1, 1, 1, 1);
        parts(six, 9999, 1667, 1667, 1667, 1666, 1666, 1666);

        says(25, "each by its WORTH times how often NEEDS of it were MET, together");
        CatNeed y = after(in("room 9;thing 1 7;thing 2 1;need 0 2 1;need 1 1 0;need 0 2 1;need 1 2 0"), 4);
        parts(y, 34, 28, 6);
        parts(y, 35, 29, 6);
        CatNeed lost = after(in("room 9;thing 4 5;thing 4 5;cat 4 1 1;need 0 1 0;need 1 1 0", "lie 1"), 3);
        parts(lost, 9999, 0, 9999);

        parts(after(in("room 9;thing 1 1;thing 1 1;need 1 9 0"), 1), 7, 0, 7);

        says(25, "nothing, if there is none");
        parts(in(ROOM), 9999, 0, 0);
        parts(after(in("room 9;thing 1 0;need 0 1 0"), 3), 9999, 0);
        parts(in("room 9" + ";thing 1 50".repeat(6)), 1, 0, 0, 0, 0, 0, 0);

        says(25, "NONE without these");
        for (int much : new int[] {-1, 10000, LEAST, MOST}) {
            due("pence(" + much + ", 0)", x.pence(much, 0), -1);
        }
        for (int thing : new int[] {4, -1, LEAST, MOST}) {
            due("pence(0, " + thing + ")", x.pence(0, thing), -1);
        }
        due("pence(0, 5) of six", six.pence(0, 5), 0);
        due("pence(0, 6) of six", six.pence(0, 6), -1);
        due("pence(0, 0) of none", in("room 2").pence(0, 0), -1);
        due("pence(0, 0) without a ROOM", new CatNeed().pence(0, 0), -1);
    }

    public static void main(String[] args) {
        nothingChanges();
        ahead();
        dueThings();
        served();
        shut();
        moved();
        tray();
        knowing();
        rests();
        ring();
        pence();
        finish("edges of asking");
    }
}
