import java.util.TreeSet;

/**
 * What the tests of edges share. Each of them says which promise and which sentence of the document
 * it looks at (says), and what is due there (due, same). No object is used for more than 512 calls.
 * Where a sentence is too long, " .. " stands for what was left out; what stands in brackets as a
 * whole is no sentence of the document, but follows from it.
 */
abstract class Edges {
    static final int LEAST = Integer.MIN_VALUE;
    static final int MOST = Integer.MAX_VALUE;

    private static final TreeSet<String> SENTENCES = new TreeSet<>();
    private static String sentence = "";
    private static int right = 0;
    private static int wrong = 0;

    /** The sentence that the checks from here on belong to, as the document words it. */
    static void says(int promise, String words) {
        sentence = "promise " + promise + ", \"" + words + "\"";
        SENTENCES.add(sentence);
    }

    static void due(String call, int got, int want) {
        if (got == want) {
            right++;
        } else {
            wrong++;
            System.out.println(sentence + ": " + call + " answered " + got + ", due is " + want);
        }
    }

    static void same(String what, String now, String before) {
        if (now.equals(before)) {
            right++;
        } else {
            wrong++;
            System.out.println(sentence + ": " + what + "\n  was  " + before + "\n  is   " + now);
        }
    }

    static void finish(String name) {
        System.out.println(name + ": " + SENTENCES.size() + " sentences, " + right + " answers as due, " + wrong + " not");
        if (wrong != 0) {
            System.exit(1);
        }
    }

    // ---- telling ----

    /** A text of at most 400 bytes, behind what the TAPE has, which must be nothing. */
    static CatNeed tell(CatNeed x, String text) {
        for (int i = 0; i < text.length(); i += 20) {
            int[] v = new int[5];
            for (int k = 0; k < 20; k++) {
                v[k / 4] = v[k / 4] << 8 | (i + k < text.length() ? text.charAt(i + k) : 0);
            }
            x.feed(v[0], v[1], v[2], v[3], v[4]);
        }
        x.end(text.length());
        return x;
    }

    static int room(String text) {
        return tell(new CatNeed(), text).room();
    }

    static int rule(String text) {
        return tell(new CatNeed(), text).rule();
    }

    /** A new object in this ROOM. */
    static CatNeed in(String text) {
        CatNeed x = tell(new CatNeed(), text);
        if (x.room() < 0) {
            throw new IllegalArgumentException("not a room: " + text);
        }
        return x;
    }

    /** A new object in this ROOM, this RULE IN FORCE. */
    static CatNeed in(String text, String rule) {
        CatNeed x = in(text);
        forced(x, rule);
        return x;
    }

    static int forced(CatNeed x, String rule) {
        int number = tell(x, rule).rule();
        if (number < 0) {
            throw new IllegalArgumentException("not a rule: " + rule);
        }
        x.force(number);
        return number;
    }

    static int fault(int place, int kind) {
        return -2 - (1 + 8 * place + kind);
    }

    static void roomFault(String text, int place, int kind) {
        due("room() of \"" + text + "\"", room(text), fault(place, kind));
    }

    static void ruleFault(String text, int place, int kind) {
        due("rule() of \"" + text + "\"", rule(text), fault(place, kind));
    }

    static void isRoom(String text, int things) {
        due("room() of \"" + text + "\"", room(text), things);
    }

    static void isRule(String text) {
        due("rule() of \"" + text + "\"", rule(text), 0);
    }

    static String blanks(int many) {
        return " ".repeat(many);
    }

    // ---- going on, and looking ----

    static CatNeed after(CatNeed x, int minutes) {
        for (int i = 0; i < minutes; i++) {
            x.minute();
        }
        return x;
    }

    /** All that COUNT, THING, CAT and NEED tell: some 50 calls for a ROOM of two or three of each. */
    static String seen(CatNeed x) {
        StringBuilder out = new StringBuilder("count");
        for (int what = 0; what < 14; what++) {
            out.append(' ').append(x.count(what));
        }
        int things = x.count(1);
        for (int thing = 0; thing < things; thing++) {
            out.append("; thing");
            for (int what = 0; what < 5; what++) {
                out.append(' ').append(x.thing(thing, what));
            }
        }
        int cats = x.count(2);
        for (int cat = 0; cat < cats; cat++) {
            out.append("; cat");
            for (int what = 0; what < 4; what++) {
                out.append(' ').append(x.cat(cat, what));
            }
        }
        int needs = x.count(3);
        for (int need = 0; need < needs; need++) {
            out.append("; need");
            for (int what = 0; what < 6; what++) {
                out.append(' ').append(x.need(need, what));
            }
        }
        return out.toString();
    }
}
