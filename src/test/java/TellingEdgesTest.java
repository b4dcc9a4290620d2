/** The edges of promises 1 to 6, and of part I of the Terms: what is told, and what is refused. */
public final class TellingEdgesTest extends Edges {
    private static final String ROOM = "room 10;thing 2 5;thing 7 3;cat 0 2 4;cat 9 3 1;need 0 6 4;need 1 4 1;need 0 3 2";

    private static void newObject() {
        says(1, "No ROOM, no RULES, none IN FORCE.");
        CatNeed x = new CatNeed();
        same("all of a new object", seen(x), "count 0 0 0 0 0 -1 0 0 0 0 0 0 0 0");
        for (int first : new int[] {-1, 0}) {
            due("thing(" + first + ", 0)", x.thing(first, 0), -1);
            due("cat(" + first + ", 0)", x.cat(first, 0), -2);
            due("need(" + first + ", 0)", x.need(first, 0), -1);
        }
        due("minute()", x.minute(), -1);
        due("lift(0)", x.lift(0), -1);
        due("move(0, 1)", x.move(0, 1), -1);
        due("strike(0)", x.strike(0), -1);
        due("teach(0, 1)", x.teach(0, 1), -1);
        due("undo()", x.undo(), -2);
        for (int what = 0; what < 4; what++) {
            due("ahead(0, 0, " + what + ")", x.ahead(0, 0, what), -2);
        }
        due("due(0)", x.due(0), -1);
        due("served(0)", x.served(0), -1);
        for (int what = 0; what < 2; what++) {
            due("shut(1, " + what + ")", x.shut(1, what), -2);
            due("moved(0, 1, " + what + ")", x.moved(0, 1, what), -1);
            due("tray(1, " + what + ")", x.tray(1, what), -1);
            due("knowing(0, " + what + ")", x.knowing(0, what), -1);
            due("rests(0, 1, 1, " + what + ")", x.rests(0, 1, 1, what), -1);
            due("ring(" + what + ")", x.ring(what), -1);
            due("ruled(" + what + ")", x.ruled(what), -3);
            due("look(0, " + what + ")", x.look(0, what), -1);
            due("visits(1, 1, 0, " + what + ")", x.visits(1, 1, 0, what), -1);
        }
        due("pence(1, 0)", x.pence(1, 0), -1);
        due("note(0, 0, -1)", x.note(0, 0, -1), -2);
        due("force(0)", x.force(0), -2);
        due("force(-1)", x.force(-1), -1);
        due("back(0)", x.back(0), -1);
        same("all, when all was refused", seen(x), "count 0 0 0 0 0 -1 0 0 0 0 0 0 0 0");

        says(1, "The constants: NONE = -1: None.");
        due("CatNeed.NONE", CatNeed.NONE, -1);

        says(1, "An object is used for at most 512 calls after it has been made");
        CatNeed y = in(ROOM);
        // Five of feed, end and room have told the ROOM's 80 bytes; these are 504 more.
        for (int i = 0; i < 252; i++) {
            y.strike(0);
            y.undo();
        }
        due("the last of 512 calls: count(1)", y.count(1), 2);

        says(1, "(an object's ROOM and RULES are its own)");
        CatNeed z = in(ROOM, "lie 1");
        due("count(1) of another one", new CatNeed().count(1), 0);
        due("count(4) of another one", new CatNeed().count(4), 0);
        due("count(1) of this one", z.count(1), 2);
    }

    private static void feed() {
        says(2, "Twenty bytes come behind the TAPE, of each number the highest first");
        for (int ahead : new int[] {0, 20, 380}) {
            for (int k = 0; k < 20; k++) {
                ruleFault(blanks(ahead + k) + "!" + blanks(19 - k), ahead + k, 0);
            }
        }
        int[] v = {0x6c696520, 0x31206966, 0x20312b31, 0x3d322061, 0x6e642033};
        CatNeed n = new CatNeed();
        n.feed(v[0], v[1], v[2], v[3], v[4]);
        n.feed(0x3e322020, 0x20202020, 0x20202020, 0x20202020, 0x20202020);
        due("rule() of \"lie 1 if 1+1=2 and 3>2\"", n.rule(), 0);

        says(2, "(each byte is 0 to 255, also of numbers below 0)");
        for (int b = 0; b < 256; b++) {
            CatNeed x = new CatNeed();
            x.feed(b << 24 | 0x202020, 0x20202020, 0x20202020, 0x20202020, 0x20202020);
            due("room() of byte " + b, x.room(), b == 32 ? fault(20, 0) : fault(0, 0));
            x.feed(0x20202000 | b, 0x20202020, 0x20202020, 0x20202020, 0x20202020);
            due("rule() of byte " + b + " at 3", x.rule(), b == 32 ? fault(20, 0) : fault(3, 0));
        }
        for (int number : new int[] {-1, LEAST, MOST, 0}) {
            CatNeed x = new CatNeed();
            due("feed of " + number, x.feed(number, number, number, number, number), 20);
            due("count(13)", x.count(13), 20);
        }

        says(2, "how many it has");
        CatNeed x = new CatNeed();
        for (int i = 1; i <= 20; i++) {
            int last = i == 20 ? 0x20202021 : 0x20202020;
            due("feed, the " + i + "th", x.feed(0x20202020, 0x20202020, 0x20202020, 0x20202020, last), 20 * i);
        }
        says(2, "NONE, and none comes, if it would have more than 400");
        due("feed, the 21st", x.feed(0x3f3f3f3f, 0x3f3f3f3f, 0x3f3f3f3f, 0x3f3f3f3f, 0x3f3f3f3f), -1);
        due("feed, the 22nd", x.feed(0, 0, 0, 0, 0), -1);
        due("count(13)", x.count(13), 400);
        due("rule(): a sign at 399 alone", x.rule(), fault(399, 0));
        due("feed, the TAPE being empty", x.feed(0, 0, 0, 0, 0), 20);
        for (int has : new int[] {379, 380, 381, 399, 400}) {
            CatNeed y = tell(new CatNeed(), blanks(has));
            due("feed behind " + has, y.feed(0x20202020, 0x20202020, 0x20202020, 0x20202020, 0x20202020), has <= 380 ? has + 20 : -1);
            due("count(13)", y.count(13), has <= 380 ? has + 20 : has);
            due("room()", y.room(), fault(has <= 380 ? has + 20 : has, 0));
        }
    }

    private static void end() {
        says(3, "The TAPE has its first n bytes alone: n");
        CatNeed x = new CatNeed();
        due("end(0) of none", x.end(0), 0);
        tell(x, "lie 1;lie 22x");
        due("end(13), all", x.end(13), 13);
        due("end(12)", x.end(12), 12);
        due("end(7)", x.end(7), 7);
        x.feed(0x69652032, 0x21202020, 0x20202020, 0x20202020, 0x20202020);
        due("count(13)", x.count(13), 27);
        due("rule(): what comes behind the first 7", x.rule(), fault(11, 0));
        tell(x, "lie 1;lie 22");
        due("end(11)", x.end(11), 11);
        due("rule() of \"lie 1;lie 2\"", x.rule(), 0);
        tell(x, "room 25;thing 24 1");
        due("end(6)", x.end(6), 6);
        due("room() of \"room 2\"", x.room(), 0);
        due("LONG", x.count(0), 2);
        tell(x, "lie 1");
        due("end(0)", x.end(0), 0);
        due("rule() of none", x.rule(), fault(0, 0));
        due("end(400)", tell(new CatNeed(), blanks(400)).end(400), 400);
        due("end(399)", tell(new CatNeed(), blanks(400)).end(399), 399);

        says(3, "NONE, and nothing happens, if it has not so many, or n is below 0");
        CatNeed y = new CatNeed();
        for (int n : new int[] {1, -1, 20, LEAST, MOST}) {
            due("end(" + n + ") of none", y.end(n), -1);
        }
        tell(y, "lie 3");
        for (int n : new int[] {6, 20, -1, 401, LEAST, MOST}) {
            due("end(" + n + ") of five", y.end(n), -1);
            due("count(13)", y.count(13), 5);
        }
        due("end(5) of five", y.end(5), 5);
        due("rule() of the five", y.rule(), 0);
        due("end(1), when it was read", y.end(1), -1);
        due("end(401) of 400", tell(new CatNeed(), blanks(400)).end(401), -1);
    }

    // ---- promise 4 ----

    /** Each beginning of a text, and what is due: its things, or a fault at a place. */
    private static void beginnings(boolean isRoom, String text, int[][] due) {
        for (int[] part : due) {
            for (int n = part[0]; n <= part[1]; n++) {
                String told = text.substring(0, n);
                int want = part[2] >= 0 ? part[2] : fault(part[2] == -1 ? n : part[3], part[4]);
                due((isRoom ? "room()" : "rule()") + " of \"" + told + "\"", isRoom ? room(told) : rule(told), want);
            }
        }
    }

    private static void room() {
        says(4, "The TAPE, which is empty then, is the ROOM in place of the one there was .. how many THINGS");
        for (int things = 0; things <= 6; things++) {
            CatNeed x = tell(new CatNeed(), "room 5" + ";thing 4 1".repeat(things));
            due("room() of " + things + " things", x.room(), things);
            due("count(13)", x.count(13), 0);
            due("count(1)", x.count(1), things);
            due("the last thing's PLACE", x.thing(things - 1, 0), things == 0 ? -1 : 4);
            due("a thing behind it", x.thing(things, 0), -1);
        }
        for (int cats = 0; cats <= 3; cats++) {
            CatNeed x = in("room 5" + ";cat 4 2 3".repeat(cats));
            due("count(2)", x.count(2), cats);
            due("the last cat's PLACE", x.cat(cats - 1, 0), cats == 0 ? -2 : 4);
            due("a cat behind it", x.cat(cats, 0), -2);
        }
        for (int needs = 0; needs <= 8; needs++) {
            CatNeed x = in("room 5;thing 1 1" + ";need 0 5 4".repeat(needs));
            due("count(3)", x.count(3), needs);
            due("the last need's EVERY", x.need(needs - 1, 1), needs == 0 ? -1 : 5);
            due("a need behind it", x.need(needs, 1), -1);
        }
        roomInPlaceOfAnother();
        roomRefused();
        beginnings(true, "room 12;thing 1 2;cat 3 4 5;need 0 7 6", new int[][] {
            {0, 0, -1, 0, 0}, {1, 3, -2, 0, 0}, {4, 5, -1, 0, 0}, {6, 6, -2, 5, 1}, {7, 7, 0}, {8, 8, -1, 0, 0}, {9, 12, -2, 8, 0},
            {13, 16, -1, 0, 0}, {17, 17, 1}, {18, 18, -1, 0, 0}, {19, 20, -2, 18, 0}, {21, 26, -1, 0, 0}, {27, 27, 1},
            {28, 28, -1, 0, 0}, {29, 31, -2, 28, 0}, {32, 37, -1, 0, 0}, {38, 38, 1}});
    }

    private static void roomInPlaceOfAnother() {
        says(4, "no NOTES, nothing to be UNDONE; the RULE IN FORCE, x and IMAGES stay");
        CatNeed x = in(ROOM, "lie 0");
        x.seed(77);
        x.note(1, 0, 0);
        after(x, 4);
        x.teach(0, 9);
        x.strike(1);
        x.image(3);
        tell(x, "room 3;thing 2 9;thing 0 8;thing 1 7;cat 2 1 1;need 2 2 1");
        due("room()", x.room(), 3);
        same("all", seen(x), "count 3 3 1 1 1 0 0 0 0 0 0 0 77 0; thing 2 9 0 0 0; thing 0 8 0 0 0; thing 1 7 0 0 0; cat 2 1 1 -1; need 2 2 1 0 0 0");
        due("undo()", x.undo(), -2);
        due("back(3)", x.back(3), 4);
        due("count(11)", x.count(11), 6);

        says(4, "(of a ROOM with more in it nothing is left)");
        CatNeed few = in("room 9" + ";thing 1 5".repeat(6) + ";cat 1 1 1".repeat(3) + ";need 0 1 0".repeat(8));
        tell(few, "room 5;thing 1 3;cat 3 1 1;need 0 2 1").room();
        same("all", seen(few), "count 5 1 1 1 0 -1 0 0 0 0 0 0 0 0; thing 1 3 0 0 0; cat 3 1 1 -1; need 0 2 1 0 0 0");
        due("due(0)", few.due(0), 1);
        due("one foreseen: ahead(0, 1, 0)", few.ahead(0, 1, 0), 2);
        due("then none foreseen: ahead(0, 2, 0)", few.ahead(0, 2, 0), 2);
        due("ring(0)", few.ring(0), 3);
        due("ring(1)", few.ring(1), 2);
        due("tray(40, 1)", few.tray(40, 1), 1);
        due("shut(40, 1)", few.shut(40, 1), 60);
        due("minute()", few.minute(), 0);
        due("count(7)", few.count(7), 1);
        due("need(1, 0)", few.need(1, 0), -1);
        CatNeed one = in("room 9;thing 1 5;cat 1 1 1;cat 1 1 1;need 0 7 0;need 0 1 0");
        tell(one, "room 5;thing 1 3;cat 1 1 1;cat 1 1 1").room();
        due("never: due(0)", one.due(0), -2);
        due("none foreseen: ahead(0, 1, 1)", one.ahead(0, 1, 1), -1);
        due("ring(1)", one.ring(1), 1);
        forced(one, "lie 1 if due=99 and knows=1");
        due("rests(0, 1, 1, 0)", one.rests(0, 1, 1, 0), 1);
        due("rests(0, 1, 2, 1)", one.rests(0, 1, 2, 1), 1);

        says(4, "It is MINUTE 0; no CAT is ON anything, no NEED is STRUCK, none was MET or LOST");
        CatNeed y = in("room 5;thing 1 5;thing 3 6;cat 1 1 1;cat 3 1 1;need 0 1 0;need 1 2 0", "lie 1 if thing=cat");
        after(y, 3);
        y.strike(1);
        same("ahead of it", seen(y), "count 5 2 2 2 1 0 3 1 0 5 0 4 0 0; thing 1 5 0 3 1; thing 3 6 0 2 2; cat 1 1 1 0; cat 3 1 1 1; need 0 1 0 0 0 3; need 1 2 0 1 0 2");
        tell(y, "room 5;thing 1 5;thing 3 6;cat 1 1 1;cat 3 1 1;need 0 1 0;need 1 2 0").room();
        same("behind it", seen(y), "count 5 2 2 2 1 0 0 3 0 0 0 0 0 0; thing 1 5 0 0 0; thing 3 6 0 0 0; cat 1 1 1 -1; cat 3 1 1 -1; need 0 1 0 0 0 0; need 1 2 0 0 0 0");
        due("minute()", y.minute(), 3);
        CatNeed z = after(in("room 5;thing 1 5;thing 1 6;cat 1 1 1" + ";need 0 1 0;need 1 1 0".repeat(4), "lie 1 if thing=minute%2"), 2);
        for (int need = 0; need < 8; need++) {
            due("ahead of it: need(" + need + ", 4)", z.need(need, 4), 1);
            due("ahead of it: need(" + need + ", 5)", z.need(need, 5), 1);
        }
        tell(z, "room 5;thing 1 5;thing 1 6;cat 1 1 1" + ";need 0 1 0;need 1 1 0".repeat(4)).room();
        for (int need = 0; need < 8; need++) {
            due("need(" + need + ", 4)", z.need(need, 4), 0);
            due("need(" + need + ", 5)", z.need(need, 5), 0);
        }
    }

    private static void roomRefused() {
        says(4, "-2 - its FAULT, and all else stays");
        CatNeed x = in(ROOM, "lie 1 if thing=cat");
        x.seed(5);
        x.note(60, 1, -1);
        after(x, 3);
        x.strike(2);
        String before = seen(x);
        String[] texts = {"", "room 2;thing 1 1;thing 0 1;thing 1 50 ; room", "room 2;cat 0 1 1;cat 0 1", "room 31"};
        int[] faults = {fault(0, 0), fault(40, 4), fault(24, 0), fault(5, 1)};
        for (int i = 0; i < texts.length; i++) {
            tell(x, texts[i]);
            due("room() of \"" + texts[i] + "\"", x.room(), faults[i]);
            same("all else, behind \"" + texts[i] + "\"", seen(x), before);
        }
        due("undo()", x.undo(), 3);
        due("minute()", x.minute(), 0);
        CatNeed y = tell(new CatNeed(), "room 9;thing 1 1;need 1 1 0");
        due("room()", y.room(), fault(22, 1));
        same("there is none then", seen(y), "count 0 0 0 0 0 -1 0 0 0 0 0 0 0 0");
        due("minute()", y.minute(), -1);
    }

    private static void roomTerms() {
        says(4, "A ROOM is a text of at most 400 bytes");
        isRoom("room 2" + blanks(384) + ";thing 1 0", 1);
        isRoom("room 2;thing 1 0" + blanks(384), 1);
        isRoom(blanks(394) + "room 2", 0);
        roomFault("room 2" + blanks(393) + ";", 400, 0);
        roomFault("room 2" + blanks(393) + "x", 399, 0);
        roomFault("room 2" + blanks(393) + "3", 399, 0);

        says(4, "CLAUSE { ; CLAUSE }, 40 at most");
        // No text has 40 without a THING, a CAT or a NEED too many ahead of that.
        isRoom("room 2" + ";thing 0 0".repeat(6) + ";cat 0 1 1".repeat(3) + ";need 0 1 0".repeat(8), 6);
        roomFault("room 2" + ";thing 0 0".repeat(34) + ";cat 0 1 1", 67, 4);
        roomFault("", 0, 0);
        roomFault(";room 2", 0, 0);
        roomFault("room 2;", 7, 0);
        roomFault("room 2;;thing 0 0", 7, 0);
        roomFault("room 2 thing 0 0", 7, 0);
        roomFault("room 2,thing 0 0", 6, 0);

        says(4, "room NUMBER (LONG 2 to 30, PLACES 0 to LONG - 1; ..");
        for (int length = 0; length <= 40; length++) {
            due("room() of LONG " + length, room("room " + length), length < 2 || length > 30 ? fault(5, 1) : 0);
        }
        roomFault("room 99999", 5, 1);
        for (int length = 2; length <= 30; length++) {
            String told = "room " + length + ";thing ";
            isRoom(told + "0 9", 1);
            isRoom(told + (length - 1) + " 9", 1);
            roomFault(told + length + " 9", told.length(), 1);
            told = "room " + length + ";cat ";
            isRoom(told + "0 9 9", 0);
            isRoom(told + (length - 1) + " 9 9", 0);
            roomFault(told + length + " 9 9", told.length(), 1);
        }

        says(4, "once, the first CLAUSE");
        isRoom("room 30", 0);
        roomFault("room 30;room 30", 8, 4);
        roomFault("room 30;thing 0 0;room 30", 18, 4);
        roomFault("thing 0 0;room 30", 0, 4);
        roomFault("cat 0 1 1;room 30", 0, 4);
        roomFault("  need 0 1 0;room 30", 2, 4);
    }

    private static void clauseTerms() {
        says(4, "thing NUMBER NUMBER (a PLACE; WORTH 0 to 50)");
        for (int worth : new int[] {0, 1, 49, 50}) {
            due("thing(0, 1)", in("room 9;thing 8 " + worth).thing(0, 1), worth);
        }
        roomFault("room 9;thing 8 51", 15, 1);
        roomFault("room 9;thing 8 99999", 15, 1);
        roomFault("room 9;thing 8", 14, 0);
        roomFault("room 9;thing 8 1 1", 17, 0);
        roomFault("room 9;thing", 12, 0);
        roomFault("room 9;thing 8 -1", 15, 0);

        says(4, "cat NUMBER NUMBER NUMBER (a PLACE; PACE 1 to 9, places a minute; KNOWS 1 to 9, minutes ahead)");
        for (int n = 0; n <= 11; n++) {
            boolean in = n >= 1 && n <= 9;
            due("room() of PACE " + n, room("room 9;cat 8 " + n + " 1"), in ? 0 : fault(13, 1));
            due("room() of KNOWS " + n, room("room 9;cat 8 1 " + n), in ? 0 : fault(15, 1));
        }
        roomFault("room 9;cat 8 1", 14, 0);
        roomFault("room 9;cat 8 1 1 1", 17, 0);
        due("cat(0, 1) of PACE 9", in("room 9;cat 8 9 1").cat(0, 1), 9);
        due("cat(0, 2) of KNOWS 9", in("room 9;cat 8 1 9").cat(0, 2), 9);

        says(4, "need NUMBER NUMBER NUMBER (a THING that was told; EVERY 1 to 30, minutes; AT 0 to EVERY - 1)");
        roomFault("room 9;need 0 1 0", 12, 1);
        for (int things = 1; things <= 6; things++) {
            String told = "room 9" + ";thing 1 1".repeat(things) + ";need ";
            isRoom(told + "0 1 0", things);
            isRoom(told + (things - 1) + " 1 0", things);
            roomFault(told + things + " 1 0", told.length(), 1);
        }
        roomFault("room 9;thing 1 1;need 1 1 0;thing 1 1", 22, 1);
        isRoom("room 9;thing 1 1;need 0 1 0;thing 1 1;need 1 1 0", 2);
        for (int every = 1; every <= 30; every++) {
            String told = "room 9;thing 1 1;need 0 " + every + " ";
            isRoom(told + "0", 1);
            isRoom(told + (every - 1), 1);
            roomFault(told + every, told.length(), 1);
        }
        roomFault("room 9;thing 1 1;need 0 0 0", 24, 1);
        roomFault("room 9;thing 1 1;need 0 31 0", 24, 1);
        roomFault("room 9;thing 1 1;need 0 1", 25, 0);
        roomFault("room 9;thing 1 1;need 0 1 0 0", 28, 0);

        says(4, "THINGS 0 to 5, CATS 0 to 2, NEEDS 0 to 7, in the order told; several THINGS and CATS may be at one PLACE");
        CatNeed x = in("room 9;cat 8 1 1;thing 8 1;need 0 2 1;thing 8 2;cat 8 2 2;need 1 3 1;need 0 4 1;cat 8 3 3");
        same("all", seen(x), "count 9 2 3 3 0 -1 0 0 0 0 0 0 0 0; thing 8 1 0 0 0; thing 8 2 0 0 0; cat 8 1 1 -1; cat 8 2 2 -1; cat 8 3 3 -1; need 0 2 1 0 0 0; need 1 3 1 0 0 0; need 0 4 1 0 0 0");
    }

    private static void roomFaults() {
        says(4, "0 a byte or WORD that can't stand there, or the end (behind the last byte)");
        roomFault("", 0, 0);
        roomFault(" ", 1, 0);
        roomFault(blanks(400), 400, 0);
        roomFault("room" + blanks(396), 400, 0);
        roomFault("Room 9", 0, 0);
        roomFault("roo 9", 0, 0);
        roomFault("rooms 9", 0, 0);
        roomFault("lie 9", 0, 0);
        roomFault("9", 0, 0);
        roomFault("room x", 5, 0);
        roomFault("room [", 5, 0);
        roomFault("room 9 9", 7, 0);
        roomFault("room 9;room_ 9", 7, 4);
        roomFault("room 9;things 8 1", 7, 0);
        roomFault("room 9;thingz 8 1", 7, 0);
        roomFault("room 9;thinga 8 1", 7, 0);
        roomFault("room 9;thin 8 1", 7, 0);
        roomFault("room 9;thing 8,1", 14, 0);
        roomFault("room 9;thing 8;1", 14, 0);
        roomFault("room 9;cat 8 1 1cat", 16, 0);
        roomFault("room 9;cats 8 1 1", 7, 0);
        roomFault("room 9;needs 0 1 0", 7, 0);
        roomFault("room 9;thing 1 1:", 16, 0);
        roomFault("room 9;thing 1/1", 14, 0);
        roomFault("room`9", 4, 0);
        roomFault("room{9", 4, 0);

        says(4, "1 a NUMBER of more digits, or not as told");
        isRoom("room 00009", 0);
        roomFault("room 000009", 5, 1);
        roomFault("room 100000", 5, 1);
        roomFault("room " + "0".repeat(394) + "9", 5, 1);
        roomFault("room 4294967298", 5, 1);
        roomFault("room 9;thing 000008 1", 13, 1);
        roomFault("room 9;thing 8 000001", 15, 1);
        roomFault("room 9;thing 65544 1", 13, 1);

        says(4, "4 one CLAUSE too many, a second room, another CLAUSE ahead of it, a seventh THING, a fourth CAT, a ninth NEED (at its first byte)");
        roomFault("room 2" + ";thing 0 0".repeat(7), 67, 4);
        roomFault("room 2" + ";thing 0 0".repeat(6) + ";  thing", 69, 4);
        roomFault("room 2" + ";cat 0 1 1".repeat(4), 37, 4);
        roomFault("room 2;thing 0 0" + ";need 0 1 0".repeat(9), 105, 4);
        roomFault("room 2;room", 7, 4);
        roomFault("cat", 0, 4);

        says(4, "FAULTS, the first along the text .. Of one place the least");
        roomFault("room 31;room 2", 5, 1);
        roomFault("room 2;thing 9 99", 13, 1);
        roomFault("room 2;thing 0 99;thing 9 9", 15, 1);
        roomFault("room 1 1", 5, 1);
        roomFault("room 2;room 99;x", 7, 4);
        roomFault("room 2" + ";thing 0 0".repeat(6) + ";thing 9 9", 67, 4);
        roomFault("room 2" + ";thing 0 0".repeat(6) + ";thingy 9 9", 67, 0);
        roomFault("thingy 0 0", 0, 0);
        roomFault("!" + blanks(398) + "!", 0, 0);
    }

    // ---- promise 5 ----

    private static void rule() {
        says(5, "The TAPE, which is empty then, is a RULE: its number");
        CatNeed x = new CatNeed();
        for (int i = 0; i < 6; i++) {
            tell(x, "lie " + i);
            due("rule(), the " + i + "th", x.rule(), i);
            due("count(13)", x.count(13), 0);
            due("count(4)", x.count(4), i + 1);
        }
        says(5, "NONE, and nothing happens: there are 6");
        for (String text : new String[] {"lie 7", "nonsense", ""}) {
            tell(x, text);
            String before = seen(x);
            due("rule() of \"" + text + "\"", x.rule(), -1);
            same("all", seen(x), before);
            due("count(13)", x.count(13), text.length());
            x.end(0);
        }
        tell(x, "room 2");
        due("rule()", x.rule(), -1);
        due("room() of what stayed", x.room(), 0);
        due("LONG", x.count(0), 2);
        due("the last is there: force(5)", x.force(5), -1);
        due("no seventh: force(6)", x.force(6), -2);

        says(5, "-2 - its FAULT");
        CatNeed y = in(ROOM, "lie 1");
        String before = seen(y);
        String[] texts = {"", "lie", "lie 1;", "lie 1 if [1=1", "lie 100000"};
        int[] faults = {fault(0, 0), fault(3, 0), fault(6, 0), fault(13, 0), fault(4, 1)};
        for (int i = 0; i < texts.length; i++) {
            tell(y, texts[i]);
            due("rule() of \"" + texts[i] + "\"", y.rule(), faults[i]);
            same("all, behind \"" + texts[i] + "\"", seen(y), before);
        }
        tell(y, "lie 2");
        due("the next one's number", y.rule(), 1);
        beginnings(false, "lie 2 if not[far<=3 and on=0]or due>9", new int[][] {
            {0, 0, -1, 0, 0}, {1, 2, -2, 0, 0}, {3, 4, -1, 0, 0}, {5, 6, 0}, {7, 7, -2, 6, 0}, {8, 9, -1, 0, 0}, {10, 11, -2, 9, 0},
            {12, 13, -1, 0, 0}, {14, 15, -2, 13, 0}, {16, 20, -1, 0, 0}, {21, 22, -2, 20, 0}, {23, 24, -1, 0, 0}, {25, 25, -2, 24, 0},
            {26, 28, -1, 0, 0}, {29, 29, 0}, {30, 30, -2, 29, 0}, {31, 32, -1, 0, 0}, {33, 34, -2, 32, 0}, {35, 36, -1, 0, 0}, {37, 37, 0}});
        ruleKept();
    }

    private static void ruleKept() {
        says(5, "(a RULE that was refused leaves nothing in the one that comes in its place)");
        CatNeed x = in("room 5;thing 1 1;thing 1 1;cat 1 1 1");
        tell(x, "lie 9 if thing=1" + " and 1=1".repeat(18) + ";lie 9;lie;");
        due("rule()", x.rule(), fault(170, 0));
        due("rule() in its place", tell(x, "lie 8 if thing=0" + " and 1=1".repeat(18)).rule(), 0);
        x.force(0);
        due("ahead(0, 1, 1)", x.ahead(0, 1, 1), 0);
        tell(x, "room 5;thing 1 1;thing 1 1;cat 1 1 1").room();
        due("it stays with another ROOM", x.ahead(0, 1, 1), 0);
        tell(x, "lie 9 if thing=1;lie 0;lie");
        due("rule()", x.rule(), fault(26, 0));
        forced(x, "lie 8 if thing=0");
        due("ahead(0, 1, 1)", x.ahead(0, 1, 1), 0);
    }

    private static void ruleTerms() {
        says(5, "texts likewise, 12 CLAUSES at most");
        for (int clauses = 1; clauses <= 12; clauses++) {
            isRule("lie 1" + ";lie 1".repeat(clauses - 1));
        }
        ruleFault("lie 1" + ";lie 1".repeat(12), 72, 4);
        ruleFault("lie 1" + ";lie 1".repeat(11) + ";  lie", 74, 4);
        ruleFault("lie 1" + ";lie 1".repeat(11) + ";lies", 72, 0);
        ruleFault("lie 1" + ";lie 1".repeat(11) + ";", 72, 0);
        ruleFault("lie 1" + ";lie 1".repeat(30), 72, 4);
        isRule("lie" + blanks(396) + "1");
        ruleFault("lie" + blanks(397), 400, 0);
        ruleFault("lie 1" + blanks(394) + ";", 400, 0);
        ruleFault("lie 1" + blanks(393) + "if", 400, 0);
        ruleFault("lie 1" + blanks(394) + "x", 399, 0);
        ruleFault("lie 1" + blanks(394) + "+", 400, 0);
        ruleFault("lie 1 if 1" + blanks(389) + "<", 400, 0);
        ruleFault("lie 1 if 1" + blanks(388) + "<=", 400, 0);
        isRule("lie 1 if 1<" + blanks(388) + "1");

        says(5, "lie SUM [ if TEST ]");
        isRule("lie 1");
        isRule("lie 1 if 1=1");
        ruleFault("lie", 3, 0);
        ruleFault("lie if 1=1", 4, 0);
        ruleFault("lie 1 if", 8, 0);
        ruleFault("lie 1 1=1", 6, 0);
        ruleFault("lie 1=1", 5, 0);
        ruleFault("lie 1 if 1=1 if 1=1", 13, 0);
        ruleFault("lie 1;if 1=1", 6, 0);
        ruleFault("lie 1 and 1=1", 6, 0);
        ruleFault("room 2", 0, 0);

        says(5, "TEST: PART { or PART }. PART: FACT { and FACT }");
        isRule("lie 1 if 1=1 or 1=1 or 1=1");
        isRule("lie 1 if 1=1 and 1=1 and 1=1");
        ruleFault("lie 1 if or 1=1", 9, 0);
        ruleFault("lie 1 if 1=1 or", 15, 0);
        ruleFault("lie 1 if 1=1 and and 1=1", 17, 0);
        ruleFault("lie 1 if 1=1 1=1", 13, 0);
        ruleFault("lie 1 if 1=1 ore 1=1", 13, 0);
        ruleFault("lie 1 if 1=1 an 1=1", 13, 0);

        says(5, "FACT: not FACT | [ TEST ] (these brackets are signs) | SUM SIGN SUM, SIGN one of < <= = >= >");
        for (String sign : new String[] {"<", "<=", "=", ">=", ">"}) {
            isRule("lie 1 if 1" + sign + "1");
            isRule("lie 1 if 1 " + sign + " 1");
        }
        ruleFault("lie 1 if 1==1", 11, 0);
        ruleFault("lie 1 if 1=<1", 11, 0);
        ruleFault("lie 1 if 1=>1", 11, 0);
        ruleFault("lie 1 if 1<>1", 11, 0);
        ruleFault("lie 1 if 1< =1", 12, 0);
        ruleFault("lie 1 if 1> =1", 12, 0);
        ruleFault("lie 1 if 1!=1", 10, 0);
        ruleFault("lie 1 if 1<=", 12, 0);
        ruleFault("lie 1 if 1=1=1", 12, 0);
        ruleFault("lie 1 if 1", 10, 0);
        ruleFault("lie 1 if 1 and 1=1", 11, 0);
        ruleFault("lie 1 if 1 2", 11, 0);
        ruleFault("lie 1 if far due", 13, 0);
        ruleFault("lie 1 if far far=1", 13, 0);
        ruleFault("lie 1 if []", 10, 0);
        ruleFault("lie 1 if [1=1", 13, 0);
        ruleFault("lie 1 if 1=1]", 12, 0);
        ruleFault("lie 1 if [1=1)", 13, 0);
        ruleFault("lie 1 if (1=1)", 9, 0);
        ruleFault("lie 1 if [1]=1", 11, 0);
        ruleFault("lie [1]", 4, 0);
        ruleFault("lie not 1", 4, 0);
        ruleFault("lie 1 if not", 12, 0);
        ruleFault("lie 1 if 1=not 1", 11, 0);
        isRule("lie 1 if not not 1=1");
        isRule("lie 1 if [[not[1=1]]]");

        says(5, "SUM: TERM { (+ or -) TERM }. TERM: VALUE { (* or / or %) VALUE }");
        isRule("lie 1+2-3*4/5%6");
        for (char sign : "+-*/%".toCharArray()) {
            ruleFault("lie " + sign + "1", 4, 0);
            ruleFault("lie 1" + sign, 6, 0);
            ruleFault("lie 1" + sign + sign + "1", 6, 0);
            ruleFault("lie 1" + sign + ";lie 1", 6, 0);
        }
        ruleFault("lie 1 2", 6, 0);
        ruleFault("lie 1^2", 5, 0);
    }

    private static void valueTerms() {
        says(5, "NUMBER (1 to 5 digits, as far as digits go on)");
        for (String digits : new String[] {"0", "9", "00000", "99999", "12345"}) {
            isRule("lie " + digits);
        }
        ruleFault("lie 100000", 4, 1);
        ruleFault("lie 000000", 4, 1);
        ruleFault("lie " + "7".repeat(396), 4, 1);
        ruleFault("lie 1 000000", 6, 0);
        ruleFault("lie 1+100000", 6, 1);
        ruleFault("lie 1 if 1=100000", 11, 1);
        ruleFault("lie 5:", 5, 0);

        says(5, "WORDS (small letters, as far as these go on) of a CAT and a THING");
        String[] words = {"cat", "thing", "far", "due", "knows", "pace", "worth", "on", "met", "lost", "minute"};
        for (String word : words) {
            isRule("lie " + word);
            isRule("lie " + word + "+1");
            ruleFault("lie " + word + "s", 4, 0);
            ruleFault("lie " + word + "a", 4, 0);
            ruleFault("lie " + word + "z", 4, 0);
            ruleFault("lie z" + word, 4, 0);
            isRule("lie" + blanks(397 - word.length()) + word);
            for (int n = 1; n < word.length(); n++) {
                ruleFault("lie" + blanks(397 - n) + word.substring(0, n), 400 - n, 0);
            }
            ruleFault("lie " + word.substring(0, word.length() - 1), 4, 0);
            ruleFault("lie " + word.substring(1), 4, 0);
            ruleFault("lie " + word + "1", 4 + word.length(), 0);
            ruleFault("lie " + word.toUpperCase(), 4, 0);
            ruleFault("lie " + word + "`", 4 + word.length(), 0);
            ruleFault("lie " + word + "{", 4 + word.length(), 0);
        }
        ruleFault("lie catthing", 4, 0);
        ruleFault("lie cat thing", 8, 0);
        ruleFault("lie room", 4, 0);
        ruleFault("lie need", 4, 0);
        ruleFault("lie lie", 4, 0);
        ruleFault("lie5far", 4, 0);
        ruleFault("lie" + "x".repeat(397), 0, 0);

        says(5, "Blanks (32) stand between as one likes");
        isRule("lie1if2=2");
        isRule("  lie  1  if  [  2  <=  2  ]  or  not  1  =  2  ;  lie  far  +  1  ");
        isRule("lie 1;lie far+1if[on=0]and not[met=1]or lost=0");
        isRoom("  room  2  ;  thing  1  0  ", 1);
        isRoom("room2;thing1 0", 1);
        for (int b : new int[] {0, 9, 10, 13, 31, 33, 160, 255}) {
            ruleFault("lie " + (char) b + "1", 4, 0);
            roomFault("room" + (char) b + "2", 4, 0);
        }
        ruleFault("l ie 1", 0, 0);
        ruleFault("lie 1 2", 6, 0);
        ruleFault("lie 1 i f 1=1", 6, 0);
    }

    private static void limits() {
        says(5, "[ and not lie within one another 10 deep at most");
        for (int brackets = 0; brackets <= 10; brackets++) {
            int nots = 10 - brackets;
            isRule("lie 1 if " + "[".repeat(brackets) + "not ".repeat(nots) + "1=1" + "]".repeat(brackets));
            isRule("lie 1 if " + "not ".repeat(nots) + "[".repeat(brackets) + "1=1" + "]".repeat(brackets));
            String head = "lie 1 if " + "[".repeat(brackets) + "not ".repeat(nots);
            ruleFault(head + "[1=1]" + "]".repeat(brackets), head.length(), 2);
            ruleFault(head + "not 1=1" + "]".repeat(brackets), head.length(), 2);
            ruleFault(head + "[[[[", head.length(), 2);
            ruleFault(head, head.length(), 0);
        }
        // Those beside one another are not within one another; behind a not's FACT it is done.
        String ten = "[".repeat(10) + "1=1" + "]".repeat(10);
        isRule("lie 1 if " + ten + " and " + ten + " or " + ten + ";lie 1 if " + ten);
        isRule("lie 1 if not 1=1 and not 1=1 and not 1=1 and not 1=1 and not 1=1 and not 1=1 and not 1=1 and not 1=1 and not 1=1 and not 1=1 and not 1=1");
        ruleFault("lie 1 if [[[[[1=1]]]]] or [[[[[[[[[[[1=1", 36, 2);
        ruleFault("lie 1 if 1=1 and not[not[not[not[not[ not 1=1]]]]]", 38, 2);

        says(5, "at most 60 VALUES (of SUMS) and FACTS made of a SIGN, together");
        isRule("lie 1" + "+1".repeat(59));
        ruleFault("lie 1" + "+1".repeat(60), 124, 3);
        isRule("lie 1" + "+1".repeat(56) + " if 1=1");
        ruleFault("lie 1" + "+1".repeat(57) + " if 1=1", 125, 3);
        ruleFault("lie 1" + "+1".repeat(58) + " if 1 <=1", 127, 3);
        ruleFault("lie 1" + "+1".repeat(59) + " if  1=1", 128, 3);
        isRule("lie 1;lie 1 if 1=1" + " and 1=1".repeat(18) + ";lie 1");
        ruleFault("lie 1;lie 1 if 1=1" + " and 1=1".repeat(18) + ";lie 1;lie 1", 173, 3);
        // Signs that open, and the words, do not count.
        isRule("lie 1;lie 1;lie 1 if [not[not 1=1]]" + " and [1=1]".repeat(9) + " or [1=1]".repeat(9));
        isRule("lie far" + "*far".repeat(59));
        ruleFault("lie far" + "*far".repeat(60), 244, 3);

        says(5, "3 one VALUE or FACT too many (at its first byte; of a FACT at its SIGN) .. Of one place the least");
        ruleFault("lie 1" + "+1".repeat(59) + "+   12", 127, 3);
        ruleFault("lie 1" + "+1".repeat(59) + "+123456", 124, 1);
        ruleFault("lie 1" + "+1".repeat(59) + "+fa", 124, 0);
        ruleFault("lie 1" + "+1".repeat(59) + "+", 124, 0);
        ruleFault("lie 1" + "+1".repeat(59) + "+12x", 124, 3);
        ruleFault("lie 1" + "+1".repeat(58) + " if 1!1", 126, 0);
        ruleFault("lie 1" + "+1".repeat(58) + " if 1=", 126, 3);
        ruleFault("lie 1" + "+1".repeat(58) + " if 1", 126, 0);

        says(5, "FAULTS, the first along the text");
        ruleFault("lie 100000;lie", 4, 1);
        ruleFault("lie x+100000", 4, 0);
        ruleFault("lie 100000x", 4, 1);
        ruleFault("lie 1 if [[[[[[[[[[[x", 19, 2);
        ruleFault("lie x if [[[[[[[[[[[", 4, 0);
        ruleFault("lie 1" + ";lie 1".repeat(11) + ";lie 100000", 72, 4);
        ruleFault("lie 1" + ";lie 1".repeat(10) + ";lie 100000;lie 1", 70, 1);
    }

    private static void force() {
        says(6, "A RULE is IN FORCE (NONE: none): which was");
        CatNeed x = in("room 5;thing 1 1;thing 3 1;cat 2 1 1;need 1 2 1");
        due("force(-1), none told", x.force(-1), -1);
        for (int i = 0; i < 6; i++) {
            tell(x, "lie " + (i % 2 == 0 ? "1 if thing=0" : "thing")).rule();
            due("told, not IN FORCE: count(5)", x.count(5), -1);
        }
        due("force(0)", x.force(0), -1);
        due("ahead(0, 1, 1)", x.ahead(0, 1, 1), 0);
        due("force(5)", x.force(5), 0);
        due("ahead(0, 1, 1)", x.ahead(0, 1, 1), 1);
        due("force(5) again", x.force(5), 5);
        due("count(5)", x.count(5), 5);
        due("force(-1)", x.force(-1), 5);
        due("count(5)", x.count(5), -1);
        due("by none: ahead(0, 1, 0)", x.ahead(0, 1, 0), 3);
        due("force(0)", x.force(0), -1);
        due("no ACT: count(11)", x.count(11), 0);

        says(6, "-2, and nothing happens, if there is none such");
        String before = seen(x);
        for (int rule : new int[] {6, 7, -2, LEAST, MOST}) {
            due("force(" + rule + ")", x.force(rule), -2);
            due("count(5)", x.count(5), 0);
        }
        same("all", seen(x), before);
        CatNeed y = new CatNeed();
        for (int rules = 0; rules < 6; rules++) {
            due("force(" + rules + ") of " + rules, y.force(rules), -2);
            tell(y, "lie 1").rule();
            due("force(" + rules + ") of " + (rules + 1), y.force(rules), rules - 1);
        }
        CatNeed z = new CatNeed();
        tell(z, "lie").rule();
        due("force(0), when one was refused", z.force(0), -2);
    }

    public static void main(String[] args) {
        newObject();
        feed();
        end();
        room();
        roomTerms();
        clauseTerms();
        roomFaults();
        rule();
        ruleTerms();
        valueTerms();
        limits();
        force();
        finish("edges of telling");
    }
}
