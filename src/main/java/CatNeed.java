/** A room of things, cats and needs, as ../shared/DOC.md promises it. */
public final class CatNeed {
    public static final int NONE = -1;

    // The answer where NONE has a meaning of its own, or where nothing was found.
    private static final int LACKING = -2;
    private static final int UNRULED = -3;

    private static final int TAPE_MOST = 400;
    private static final int FEED_BYTES = 20;
    private static final int THINGS_MOST = 6;
    private static final int CATS_MOST = 3;
    private static final int NEEDS_MOST = 8;
    private static final int RULES_MOST = 6;
    private static final int IMAGES_MOST = 4;
    private static final int ACTS_MOST = 20;
    private static final int NOTES_MOST = 10;
    private static final int NOTED_MOST = 60;
    private static final int TIMES_MOST = 999;
    private static final int KNOWS_MOST = 9;
    private static final int NEVER = 99;

    private static final int AHEAD_MOST = 100;
    private static final int SERVED_MOST = 100;
    private static final int WORTH_MINUTES = 60;
    private static final int TRAY_MINUTES = 40;
    private static final int REST_MINUTES = 20;
    private static final int RING_MINUTES = 60;
    private static final int PENCE_MOST = 9999;
    private static final int VISITS_MOST = 10;
    // RESTS go through the odd numbers 1 to 9, five of them for either CAT.
    private static final int REST_WAYS = 5;

    private final Tape tape = new Tape();
    private final Rule[] rules = new Rule[RULES_MOST];
    private int ruleCount = 0;
    private final Told draft = new Told();
    private final Whole here = new Whole();
    private final Whole[] images = new Whole[IMAGES_MOST];
    private int imagesMade = 0;
    // What-ifs run on this one state, so that no call makes objects.
    private final State trial = new State();
    private final int[] track = new int[RING_MINUTES + 1];
    private final int[] oneHas = new int[REST_WAYS * REST_WAYS];
    private final int[] otherHas = new int[REST_WAYS * REST_WAYS];
    private final int[] alike = new int[CATS_MOST * (THINGS_MOST + 1)];

    public CatNeed() {
        for (int i = 0; i < RULES_MOST; i++) {
            rules[i] = new Rule();
        }
        for (int i = 0; i < IMAGES_MOST; i++) {
            images[i] = new Whole();
        }
    }

    // ---- telling ----

    public int feed(int a, int b, int c, int d, int e) {
        if (tape.size + FEED_BYTES > TAPE_MOST) {
            return NONE;
        }
        tape.put(a);
        tape.put(b);
        tape.put(c);
        tape.put(d);
        tape.put(e);
        return tape.size;
    }

    public int end(int n) {
        if (n < 0 || n > tape.size) {
            return NONE;
        }
        tape.size = n;
        return n;
    }

    public int room() {
        boolean sound = RoomReader.read(tape, draft);
        tape.size = 0;
        if (!sound) {
            return LACKING - tape.fault;
        }
        here.enter(draft);
        return here.told.things;
    }

    public int rule() {
        if (ruleCount >= RULES_MOST) {
            return NONE;
        }
        boolean sound = RuleReader.read(tape, rules[ruleCount]);
        tape.size = 0;
        if (!sound) {
            return LACKING - tape.fault;
        }
        ruleCount++;
        return ruleCount - 1;
    }

    public int force(int rule) {
        if (rule < NONE || rule >= ruleCount) {
            return LACKING;
        }
        int was = here.force;
        here.force = rule;
        return was;
    }

    // ---- what is there ----

    public int thing(int thing, int what) {
        if (!isThing(thing)) {
            return NONE;
        }
        switch (what) {
            case 0: return here.now.thingPlace[thing];
            case 1: return here.told.worth[thing];
            case 2: return here.now.metOf(here.told, thing);
            case 3: return here.now.lostOf(here.told, thing);
            case 4: return here.now.catsOn(here.told, thing);
            default: return NONE;
        }
    }

    public int cat(int cat, int what) {
        if (!isCat(cat)) {
            return LACKING;
        }
        switch (what) {
            case 0: return here.now.catPlace[cat];
            case 1: return here.told.pace[cat];
            case 2: return here.now.knows[cat];
            case 3: return here.now.catOn[cat];
            default: return LACKING;
        }
    }

    public int need(int need, int what) {
        if (!isNeed(need)) {
            return NONE;
        }
        switch (what) {
            case 0: return here.told.needThing[need];
            case 1: return here.told.every[need];
            case 2: return here.told.at[need];
            case 3: return here.now.isStruck(need) ? 1 : 0;
            case 4: return here.now.met[need];
            case 5: return here.now.lost[need];
            default: return NONE;
        }
    }

    public int count(int what) {
        switch (what) {
            case 0: return here.told.length;
            case 1: return here.told.things;
            case 2: return here.told.cats;
            case 3: return here.told.needs;
            case 4: return ruleCount;
            case 5: return here.force;
            case 6: return here.now.minute;
            case 7: return here.now.dueNow(here.told);
            case 8: return here.now.metInAll(here.told);
            case 9: return here.now.lostInAll(here.told);
            case 10: return here.notes;
            case 11: return here.acts;
            case 12: return here.x;
            case 13: return tape.size;
            default: return NONE;
        }
    }

    // ---- acts ----

    public int minute() {
        if (!stands() || here.now.minute >= TIMES_MOST) {
            return NONE;
        }
        here.keep();
        here.now.pass(here.told, inForce());
        return here.now.lostNow;
    }

    public int lift(int cat) {
        if (!isCat(cat) || here.now.catOn[cat] == NONE) {
            return NONE;
        }
        here.keep();
        int was = here.now.catOn[cat];
        here.now.catOn[cat] = NONE;
        here.now.catPlace[cat] = 0;
        return was;
    }

    public int move(int thing, int place) {
        if (!isThing(thing) || place < 0 || place >= here.told.length) {
            return NONE;
        }
        int was = here.now.thingPlace[thing];
        if (place == was || here.now.catsOn(here.told, thing) != 0) {
            return NONE;
        }
        here.keep();
        here.now.thingPlace[thing] = place;
        return was;
    }

    public int strike(int need) {
        if (!isNeed(need)) {
            return NONE;
        }
        here.keep();
        here.now.struck ^= 1 << need;
        return here.now.isStruck(need) ? 1 : 0;
    }

    public int teach(int cat, int knows) {
        if (!isCat(cat) || knows < 1 || knows > KNOWS_MOST || knows == here.now.knows[cat]) {
            return NONE;
        }
        here.keep();
        int was = here.now.knows[cat];
        here.now.knows[cat] = knows;
        return was;
    }

    public int undo() {
        return here.takeBack() ? here.acts : LACKING;
    }

    // ---- what would be ----

    public int ahead(int cat, int n, int what) {
        if (!stands() || n < 0 || n > AHEAD_MOST || what < 0 || what > 3) {
            return LACKING;
        }
        if (what < 2 && !isCat(cat)) {
            return LACKING;
        }
        trial.copyFrom(here.now);
        goOn(n, inForce());
        switch (what) {
            case 0: return trial.catPlace[cat];
            case 1: return trial.catOn[cat];
            case 2: return trial.metInAll(here.told);
            default: return trial.lostInAll(here.told);
        }
    }

    public int due(int thing) {
        if (!isThing(thing)) {
            return NONE;
        }
        int wait = here.now.dueIn(here.told, thing);
        return wait == NEVER ? LACKING : here.now.minute + wait;
    }

    public int served(int need) {
        if (!isNeed(need)) {
            return NONE;
        }
        Rule rule = inForce();
        trial.copyFrom(here.now);
        for (int i = 0; i < SERVED_MOST; i++) {
            int begun = trial.minute;
            trial.pass(here.told, rule);
            if ((trial.metNow >> need & 1) != 0) {
                return begun;
            }
        }
        return LACKING;
    }

    public int shut(int n, int what) {
        if (!stands() || n < 1 || n > WORTH_MINUTES || what < 0 || what > 1) {
            return LACKING;
        }
        int best = NONE;
        int most = NONE;
        for (int cat = NONE; cat < here.told.cats; cat++) {
            trial.copyFrom(here.now);
            trial.sendAway(cat);
            int worth = worthMet(n);
            if (worth > most) {
                most = worth;
                best = cat;
            }
        }
        return what == 0 ? best : most;
    }

    public int moved(int thing, int n, int what) {
        if (!isThing(thing) || n < 1 || n > WORTH_MINUTES || what < 0 || what > 1) {
            return NONE;
        }
        trial.copyFrom(here.now);
        int best = here.now.thingPlace[thing];
        int most = worthMet(n);
        for (int place = 0; place < here.told.length; place++) {
            if (place != here.now.thingPlace[thing]) {
                trial.copyFrom(here.now);
                trial.shift(here.told, thing, place);
                int worth = worthMet(n);
                if (worth > most) {
                    most = worth;
                    best = place;
                }
            }
        }
        return what == 0 ? best : most;
    }

    public int tray(int n, int what) {
        if (!stands() || n < 1 || n > TRAY_MINUTES || what < 0 || what > 1) {
            return NONE;
        }
        int sets = 1 << here.told.needs;
        // All that can be struck: by these surely none is lost.
        int best = sets - 1 & ~here.now.struck;
        for (int set = 0; set < sets; set++) {
            boolean fewer = Integer.bitCount(set) < Integer.bitCount(best);
            if (fewer && (set & here.now.struck) == 0 && losesNone(set, n)) {
                best = set;
            }
        }
        return what == 0 ? Integer.bitCount(best) : best;
    }

    public int rests(int one, int other, int n, int what) {
        if (!isCat(one) || !isCat(other) || one == other) {
            return NONE;
        }
        if (n < 1 || n > REST_MINUTES || what < 0 || what > 2) {
            return NONE;
        }
        for (int way = 0; way < REST_WAYS * REST_WAYS; way++) {
            weigh(one, other, n, way);
        }
        int first = NONE;
        int found = 0;
        for (int way = 0; way < REST_WAYS * REST_WAYS; way++) {
            if (isRest(way)) {
                first = first == NONE ? way : first;
                found++;
            }
        }
        if (what == 0) {
            return found;
        }
        if (first == NONE) {
            return LACKING;
        }
        return knowsBy(what == 1 ? first / REST_WAYS : first % REST_WAYS);
    }

    public int ring(int what) {
        if (!stands() || what < 0 || what > 1) {
            return NONE;
        }
        Rule rule = inForce();
        trial.copyFrom(here.now);
        for (int i = 0; i <= RING_MINUTES; i++) {
            track[i] = trial.catsAsNumber(here.told);
            trial.pass(here.told, rule);
        }
        for (int from = 0; from < RING_MINUTES; from++) {
            for (int to = from + 1; to <= RING_MINUTES; to++) {
                if (track[from] == track[to] && here.now.needsRound(here.told, to - from)) {
                    return what == 0 ? here.now.minute + from : to - from;
                }
            }
        }
        return LACKING;
    }

    public int pence(int much, int thing) {
        if (much < 0 || much > PENCE_MOST || !isThing(thing)) {
            return NONE;
        }
        long all = 0;
        for (int i = 0; i < here.told.things; i++) {
            all += share(i);
        }
        if (all <= 0) {
            return 0;
        }
        long left = much;
        long lost = much * share(thing) % all;
        int before = 0;
        for (int i = 0; i < here.told.things; i++) {
            long itLost = much * share(i) % all;
            left -= much * share(i) / all;
            if (itLost > lost || itLost == lost && i < thing) {
                before++;
            }
        }
        int part = (int) (much * share(thing) / all);
        return before < left ? part + 1 : part;
    }

    // ---- notes ----

    public int note(int n, int cat, int thing) {
        if (n == NONE) {
            here.notes = 0;
            return 0;
        }
        if (n < 0 || n > NOTED_MOST || !isCat(cat) || thing != NONE && !isThing(thing)) {
            return LACKING;
        }
        return here.write(n, cat, thing) ? here.notes : LACKING;
    }

    public int knowing(int cat, int what) {
        if (!isCat(cat) || what < 0 || what > 1) {
            return NONE;
        }
        int least = LACKING;
        int found = 0;
        for (int knows = 1; knows <= KNOWS_MOST; knows++) {
            trial.begin(here.told);
            trial.knows[cat] = knows;
            if (notesHold(inForce())) {
                least = found == 0 ? knows : least;
                found++;
            }
        }
        return what == 0 ? found : least;
    }

    public int ruled(int what) {
        if (!stands() || what < 0 || what > 1) {
            return UNRULED;
        }
        int set = rulesThatHold();
        if (what == 0) {
            return Integer.bitCount(set);
        }
        for (int number = NONE; number < ruleCount; number++) {
            if ((set >> number + 1 & 1) != 0) {
                return number;
            }
        }
        return LACKING;
    }

    public int look(int n, int what) {
        if (!stands() || n < 0 || n > NOTED_MOST || what < 0 || what > 1) {
            return NONE;
        }
        int set = rulesThatHold();
        if (set == 0 || here.told.cats == 0) {
            return LACKING;
        }
        countAlike(set, n);
        int best = 0;
        for (int cat = 1; cat < here.told.cats; cat++) {
            if (mostAlike(cat) < mostAlike(best)) {
                best = cat;
            }
        }
        return what == 0 ? best : mostAlike(best);
    }

    // ---- draws ----

    public int seed(int x) {
        if (x < 0) {
            return NONE;
        }
        int was = here.x;
        here.x = x;
        return was;
    }

    public int visits(int m, int n, int p, int what) {
        if (!stands() || m < 1 || m > VISITS_MOST || n < 1 || n > WORTH_MINUTES) {
            return NONE;
        }
        if (p < 0 || p > 100 || what < 0 || what > 1) {
            return NONE;
        }
        Rule rule = inForce();
        int things = here.told.things;
        int x = here.x;
        int have = 0;
        int haveNot = 0;
        for (int i = 0; i < m * n; i++) {
            if (i % n == 0) {
                trial.copyFrom(here.now);
            }
            x = drawn(x);
            boolean comes = x / 65536 % 100 < p && things > 0;
            trial.pass(here.told, rule);
            if (comes) {
                x = drawn(x);
                // CATS are ON the same behind (2) as behind (1).
                if (trial.catsOn(here.told, x / 65536 % things) == 0) {
                    have++;
                } else {
                    haveNot++;
                }
            }
        }
        return what == 0 ? have : haveNot;
    }

    // ---- images ----

    public int image(int k) {
        if (k < 0 || k >= IMAGES_MOST) {
            return NONE;
        }
        images[k].copyFrom(here);
        imagesMade |= 1 << k;
        return here.now.minute;
    }

    public int back(int k) {
        if (k < 0 || k >= IMAGES_MOST || (imagesMade >> k & 1) == 0) {
            return NONE;
        }
        here.copyFrom(images[k]);
        return here.now.minute;
    }

    // ---- what the answers above share ----

    private boolean stands() {
        return here.told.length > 0;
    }

    private boolean isThing(int thing) {
        return thing >= 0 && thing < here.told.things;
    }

    private boolean isCat(int cat) {
        return cat >= 0 && cat < here.told.cats;
    }

    private boolean isNeed(int need) {
        return need >= 0 && need < here.told.needs;
    }

    private Rule ruleBy(int number) {
        return number >= 0 && number < ruleCount ? rules[number] : null;
    }

    private Rule inForce() {
        return ruleBy(here.force);
    }

    private void goOn(int n, Rule rule) {
        for (int i = 0; i < n; i++) {
            trial.pass(here.told, rule);
        }
    }

    private int worthMet(int n) {
        Rule rule = inForce();
        int worth = 0;
        for (int i = 0; i < n; i++) {
            trial.pass(here.told, rule);
            worth += here.told.worthOfNeeds(trial.metNow);
        }
        return worth;
    }

    private boolean losesNone(int set, int n) {
        Rule rule = inForce();
        trial.copyFrom(here.now);
        trial.struck |= set;
        for (int i = 0; i < n; i++) {
            trial.pass(here.told, rule);
            if (trial.lostNow != 0) {
                return false;
            }
        }
        return true;
    }

    private static int knowsBy(int way) {
        return 2 * way + 1;
    }

    /** What each of two CATS has, in the rows' place for this two of numbers. */
    private void weigh(int one, int other, int n, int way) {
        Rule rule = inForce();
        trial.copyFrom(here.now);
        trial.knows[one] = knowsBy(way / REST_WAYS);
        trial.knows[other] = knowsBy(way % REST_WAYS);
        oneHas[way] = 0;
        otherHas[way] = 0;
        for (int i = 0; i < n; i++) {
            trial.pass(here.told, rule);
            oneHas[way] += trial.gain(here.told, one);
            otherHas[way] += trial.gain(here.told, other);
        }
    }

    private boolean isRest(int way) {
        int row = way / REST_WAYS * REST_WAYS;
        int column = way % REST_WAYS;
        for (int i = 0; i < REST_WAYS; i++) {
            if (oneHas[i * REST_WAYS + column] > oneHas[way] || otherHas[row + i] > otherHas[way]) {
                return false;
            }
        }
        return true;
    }

    private long share(int thing) {
        return (long) here.told.worth[thing] * here.now.metOf(here.told, thing);
    }

    /** Whether all NOTES are so as the trial, which is at the begin, goes on. */
    private boolean notesHold(Rule rule) {
        int last = here.lastNoted();
        for (int n = 0; n <= last; n++) {
            if (!here.notesAgree(n, trial)) {
                return false;
            }
            trial.pass(here.told, rule);
        }
        return true;
    }

    /** As bits: none is bit 0, so that it comes ahead of RULE 0, which is bit 1. */
    private int rulesThatHold() {
        int set = 0;
        for (int number = NONE; number < ruleCount; number++) {
            trial.begin(here.told);
            if (notesHold(ruleBy(number))) {
                set |= 1 << number + 1;
            }
        }
        return set;
    }

    private void countAlike(int set, int n) {
        for (int i = 0; i < alike.length; i++) {
            alike[i] = 0;
        }
        for (int number = NONE; number < ruleCount; number++) {
            if ((set >> number + 1 & 1) != 0) {
                trial.begin(here.told);
                goOn(n, ruleBy(number));
                for (int cat = 0; cat < here.told.cats; cat++) {
                    alike[cat * (THINGS_MOST + 1) + trial.catOn[cat] + 1]++;
                }
            }
        }
    }

    private int mostAlike(int cat) {
        int most = 0;
        for (int on = 0; on <= THINGS_MOST; on++) {
            most = Math.max(most, alike[cat * (THINGS_MOST + 1) + on]);
        }
        return most;
    }

    private static int drawn(int x) {
        return (int) ((x * 1103515245L + 12345L) % 2147483648L);
    }

    /** The bytes fed so far, and a text read along them up to its first fault. */
    private static final class Tape {
        static final int BAD_SIGN = 0;
        static final int BAD_NUMBER = 1;
        static final int TOO_DEEP = 2;
        static final int TOO_MANY = 3;
        static final int BAD_CLAUSE = 4;
        static final int DIGITS_MOST = 5;

        final int[] signs = new int[TAPE_MOST];
        int size = 0;
        int at = 0;
        int fault = 0;

        void put(int four) {
            for (int shift = 24; shift >= 0; shift -= 8) {
                if (size < signs.length) {
                    signs[size] = four >>> shift & 255;
                    size++;
                }
            }
        }

        void rewind() {
            at = 0;
            fault = 0;
        }

        void fail(int place, int kind) {
            if (fault == 0) {
                fault = 1 + 8 * place + kind;
            }
        }

        void skipBlanks() {
            while (at < size && signs[at] == ' ') {
                at++;
            }
        }

        /** Which of these signs comes next, and goes past it; NONE, and stays, if none does. */
        int takeSign(String which) {
            skipBlanks();
            if (at >= size) {
                return NONE;
            }
            int found = which.indexOf((char) signs[at]);
            if (found >= 0) {
                at++;
            }
            return found;
        }

        /** As takeSign, for a sign that must follow without blanks. */
        boolean takeNext(char sign) {
            boolean follows = at < size && signs[at] == sign;
            if (follows) {
                at++;
            }
            return follows;
        }

        /** Which of these names the next WORD is, and goes past it; NONE, and stays, if none. */
        int takeWord(String names) {
            skipBlanks();
            int stop = at;
            while (stop < size && signs[stop] >= 'a' && signs[stop] <= 'z') {
                stop++;
            }
            int name = 0;
            int fit = 0;
            for (int i = 0; i <= names.length(); i++) {
                if (i == names.length() || names.charAt(i) == ' ') {
                    if (fit > 0 && fit == stop - at) {
                        at = stop;
                        return name;
                    }
                    name++;
                    fit = 0;
                } else if (fit >= 0 && at + fit < stop && signs[at + fit] == names.charAt(i)) {
                    fit++;
                } else {
                    fit = NONE;
                }
            }
            return NONE;
        }

        boolean digitNext() {
            skipBlanks();
            return at < size && signs[at] >= '0' && signs[at] <= '9';
        }

        int takeNumber(int least, int most) {
            skipBlanks();
            int from = at;
            int value = 0;
            while (at < size && signs[at] >= '0' && signs[at] <= '9') {
                if (at - from < DIGITS_MOST) {
                    value = value * 10 + signs[at] - '0';
                }
                at++;
            }
            if (at == from) {
                fail(from, BAD_SIGN);
            } else if (at - from > DIGITS_MOST || value < least || value > most) {
                fail(from, BAD_NUMBER);
            }
            return value;
        }

        /** Whether another CLAUSE comes; a fault, if what comes is neither that nor the end. */
        boolean takeSemicolon() {
            skipBlanks();
            if (fault != 0 || at >= size) {
                return false;
            }
            if (takeNext(';')) {
                return true;
            }
            fail(at, BAD_SIGN);
            return false;
        }
    }

    /** Reads the text of a ROOM. */
    private static final class RoomReader {
        static final String CLAUSES = "room thing cat need";
        static final int ROOM = 0;
        static final int THING = 1;
        static final int CAT = 2;
        static final int CLAUSES_MOST = 40;

        private RoomReader() {
        }

        static boolean read(Tape tape, Told told) {
            told.clear();
            tape.rewind();
            int clauses = 0;
            do {
                tape.skipBlanks();
                int place = tape.at;
                int kind = tape.takeWord(CLAUSES);
                if (kind == NONE) {
                    tape.fail(place, Tape.BAD_SIGN);
                } else if (clauses == CLAUSES_MOST || !mayCome(told, kind)) {
                    tape.fail(place, Tape.BAD_CLAUSE);
                } else {
                    readClause(tape, told, kind);
                }
                clauses++;
            } while (clauses <= CLAUSES_MOST && tape.takeSemicolon());
            return tape.fault == 0;
        }

        private static boolean mayCome(Told told, int kind) {
            if (kind == ROOM || told.length == 0) {
                return kind == ROOM && told.length == 0;
            }
            if (kind == THING) {
                return told.things < THINGS_MOST;
            }
            return kind == CAT ? told.cats < CATS_MOST : told.needs < NEEDS_MOST;
        }

        private static void readClause(Tape tape, Told told, int kind) {
            if (kind == ROOM) {
                told.length = tape.takeNumber(2, 30);
            } else if (kind == THING) {
                int place = tape.takeNumber(0, told.length - 1);
                int worth = tape.takeNumber(0, 50);
                told.addThing(place, worth);
            } else if (kind == CAT) {
                int place = tape.takeNumber(0, told.length - 1);
                int pace = tape.takeNumber(1, 9);
                int knows = tape.takeNumber(1, KNOWS_MOST);
                told.addCat(place, pace, knows);
            } else {
                int thing = tape.takeNumber(0, told.things - 1);
                int every = tape.takeNumber(1, 30);
                int at = tape.takeNumber(0, every - 1);
                told.addNeed(thing, every, at);
            }
        }
    }

    /** Reads the text of a RULE into code that takes what it works on from a stack. */
    private static final class RuleReader {
        static final int CLAUSES_MOST = 12;
        static final int DEEP_MOST = 10;
        static final int COUNTED_MOST = 60;

        private RuleReader() {
        }

        static boolean read(Tape tape, Rule rule) {
            rule.clear();
            tape.rewind();
            int clauses = 0;
            do {
                tape.skipBlanks();
                int place = tape.at;
                if (tape.takeWord("lie") == NONE) {
                    tape.fail(place, Tape.BAD_SIGN);
                } else if (clauses == CLAUSES_MOST) {
                    tape.fail(place, Tape.BAD_CLAUSE);
                } else {
                    readSum(tape, rule);
                    if (tape.fault == 0 && tape.takeWord("if") != NONE) {
                        readTest(tape, rule, 0);
                        rule.add(Rule.GIVE_IF);
                    } else {
                        rule.add(Rule.GIVE);
                    }
                }
                clauses++;
            } while (clauses <= CLAUSES_MOST && tape.takeSemicolon());
            return tape.fault == 0;
        }

        private static void readTest(Tape tape, Rule rule, int depth) {
            readFact(tape, rule, depth);
            // An "or" waits until the "and"s behind it, which bind more, have been read.
            boolean waits = false;
            for (int i = 0; i < TAPE_MOST && tape.fault == 0; i++) {
                int which = tape.takeWord("and or");
                if (which == NONE) {
                    break;
                }
                if (which == 1 && waits) {
                    rule.add(Rule.OR);
                }
                waits = waits || which == 1;
                readFact(tape, rule, depth);
                if (which == 0) {
                    rule.add(Rule.AND);
                }
            }
            if (waits) {
                rule.add(Rule.OR);
            }
        }

        private static void readFact(Tape tape, Rule rule, int depth) {
            tape.skipBlanks();
            int place = tape.at;
            boolean opens = tape.takeSign("[") == 0;
            boolean turns = !opens && tape.takeWord("not") == 0;
            if ((opens || turns) && depth >= DEEP_MOST) {
                tape.fail(place, Tape.TOO_DEEP);
            } else if (opens) {
                readTest(tape, rule, depth + 1);
                if (tape.takeSign("]") == NONE) {
                    tape.fail(tape.at, Tape.BAD_SIGN);
                }
            } else if (turns) {
                readFact(tape, rule, depth + 1);
                rule.add(Rule.NOT);
            } else {
                readSum(tape, rule);
                int sign = readComparison(tape, rule);
                readSum(tape, rule);
                rule.add(sign);
            }
        }

        private static int readComparison(Tape tape, Rule rule) {
            tape.skipBlanks();
            int place = tape.at;
            int sign = tape.takeSign("<=>");
            if (sign == NONE) {
                tape.fail(place, Tape.BAD_SIGN);
            } else {
                tallyOne(tape, rule, place);
            }
            if (sign == 0) {
                return tape.takeNext('=') ? Rule.AT_MOST : Rule.BELOW;
            }
            if (sign == 1) {
                return Rule.LIKE;
            }
            return tape.takeNext('=') ? Rule.AT_LEAST : Rule.ABOVE;
        }

        private static void readSum(Tape tape, Rule rule) {
            readValue(tape, rule);
            // A + or - waits until the TERM behind it has been read.
            int waiting = NONE;
            for (int i = 0; i < TAPE_MOST && tape.fault == 0; i++) {
                int sign = tape.takeSign("+-*/%");
                if (sign == NONE) {
                    break;
                }
                boolean adds = sign < 2;
                if (adds && waiting != NONE) {
                    rule.add(waiting);
                }
                waiting = adds ? Rule.PLUS + sign : waiting;
                readValue(tape, rule);
                if (!adds) {
                    rule.add(Rule.PLUS + sign);
                }
            }
            if (waiting != NONE) {
                rule.add(waiting);
            }
        }

        private static void readValue(Tape tape, Rule rule) {
            boolean digits = tape.digitNext();
            int place = tape.at;
            int value;
            if (digits) {
                value = tape.takeNumber(0, Rule.WORDS - 1);
            } else {
                int word = tape.takeWord(State.WORDS);
                if (word == NONE) {
                    tape.fail(place, Tape.BAD_SIGN);
                }
                value = Rule.WORDS + word;
            }
            tallyOne(tape, rule, place);
            rule.add(value);
        }

        private static void tallyOne(Tape tape, Rule rule, int place) {
            rule.tally++;
            if (rule.tally > COUNTED_MOST) {
                tape.fail(place, Tape.TOO_MANY);
            }
        }
    }

    /** A RULE: below WORDS a code is a NUMBER, from OPERATIONS on something to be done. */
    private static final class Rule {
        static final int WORDS = 100000;
        static final int OPERATIONS = 200000;
        // PLUS to REST stand in the order in which the reader looks for their signs.
        static final int PLUS = OPERATIONS;
        static final int MINUS = OPERATIONS + 1;
        static final int TIMES = OPERATIONS + 2;
        static final int BY = OPERATIONS + 3;
        static final int REST = OPERATIONS + 4;
        static final int BELOW = OPERATIONS + 5;
        static final int AT_MOST = OPERATIONS + 6;
        static final int LIKE = OPERATIONS + 7;
        static final int AT_LEAST = OPERATIONS + 8;
        static final int ABOVE = OPERATIONS + 9;
        static final int AND = OPERATIONS + 10;
        static final int OR = OPERATIONS + 11;
        static final int NOT = OPERATIONS + 12;
        static final int GIVE = OPERATIONS + 13;
        static final int GIVE_IF = OPERATIONS + 14;
        // Brackets ten deep, each with an "or" and an "and" that wait, need some thirty.
        static final int STACK_MOST = 64;

        // Each code comes from a byte of its own in the text.
        final int[] code = new int[TAPE_MOST];
        final long[] stack = new long[STACK_MOST];
        int size = 0;
        int tally = 0;

        void clear() {
            size = 0;
            tally = 0;
        }

        void add(int what) {
            if (size < code.length) {
                code[size] = what;
                size++;
            }
        }

        /** The SUM of the first CLAUSE that is without a TEST, or whose TEST holds; 0 without. */
        long valueFor(Told told, State state, int cat, int thing) {
            int top = 0;
            for (int i = 0; i < size && i < code.length; i++) {
                int what = code[i];
                if (what < OPERATIONS) {
                    if (top >= STACK_MOST) {
                        return 0;
                    }
                    stack[top] = what < WORDS ? what : state.wordValue(told, what - WORDS, cat, thing);
                    top++;
                } else if (what == GIVE) {
                    return top > 0 ? stack[top - 1] : 0;
                } else if (what == NOT) {
                    if (top > 0) {
                        stack[top - 1] = stack[top - 1] == 0 ? 1 : 0;
                    }
                } else if (top < 2) {
                    return 0;
                } else if (what == GIVE_IF) {
                    if (stack[top - 1] != 0) {
                        return stack[top - 2];
                    }
                    top -= 2;
                } else {
                    top--;
                    stack[top - 1] = joined(what, stack[top - 1], stack[top]);
                }
            }
            return 0;
        }

        private static long joined(int what, long left, long right) {
            switch (what) {
                case PLUS: return left + right;
                case MINUS: return left - right;
                case TIMES: return left * right;
                case BY: return right == 0 ? 0 : left / right;
                case REST: return right == 0 ? 0 : left % right;
                case BELOW: return left < right ? 1 : 0;
                case AT_MOST: return left <= right ? 1 : 0;
                case LIKE: return left == right ? 1 : 0;
                case AT_LEAST: return left >= right ? 1 : 0;
                case ABOVE: return left > right ? 1 : 0;
                case AND: return left != 0 && right != 0 ? 1 : 0;
                default: return left != 0 || right != 0 ? 1 : 0;
            }
        }
    }

    /** A ROOM as its text told it; LONG is 0 while none was told. */
    private static final class Told {
        int length = 0;
        int things = 0;
        int cats = 0;
        int needs = 0;
        final int[] thingPlace = new int[THINGS_MOST];
        final int[] worth = new int[THINGS_MOST];
        final int[] catPlace = new int[CATS_MOST];
        final int[] pace = new int[CATS_MOST];
        final int[] knows = new int[CATS_MOST];
        final int[] needThing = new int[NEEDS_MOST];
        final int[] every = new int[NEEDS_MOST];
        final int[] at = new int[NEEDS_MOST];

        void clear() {
            length = 0;
            things = 0;
            cats = 0;
            needs = 0;
        }

        void addThing(int place, int itsWorth) {
            if (things < THINGS_MOST) {
                thingPlace[things] = place;
                worth[things] = itsWorth;
                things++;
            }
        }

        void addCat(int place, int itsPace, int itKnows) {
            if (cats < CATS_MOST) {
                catPlace[cats] = place;
                pace[cats] = itsPace;
                knows[cats] = itKnows;
                cats++;
            }
        }

        void addNeed(int thing, int itsEvery, int itsAt) {
            if (needs < NEEDS_MOST) {
                needThing[needs] = thing;
                every[needs] = itsEvery;
                at[needs] = itsAt;
                needs++;
            }
        }

        void copyFrom(Told other) {
            length = other.length;
            things = other.things;
            cats = other.cats;
            needs = other.needs;
            System.arraycopy(other.thingPlace, 0, thingPlace, 0, THINGS_MOST);
            System.arraycopy(other.worth, 0, worth, 0, THINGS_MOST);
            System.arraycopy(other.catPlace, 0, catPlace, 0, CATS_MOST);
            System.arraycopy(other.pace, 0, pace, 0, CATS_MOST);
            System.arraycopy(other.knows, 0, knows, 0, CATS_MOST);
            System.arraycopy(other.needThing, 0, needThing, 0, NEEDS_MOST);
            System.arraycopy(other.every, 0, every, 0, NEEDS_MOST);
            System.arraycopy(other.at, 0, at, 0, NEEDS_MOST);
        }

        /** The WORTH of the THINGS of these NEEDS, as bits, once for each NEED. */
        int worthOfNeeds(int set) {
            int all = 0;
            for (int need = 0; need < needs; need++) {
                if ((set >> need & 1) != 0) {
                    all += worth[needThing[need]];
                }
            }
            return all;
        }
    }

    /** What MINUTES and other ACTS change in a ROOM. */
    private static final class State {
        static final String WORDS = "cat thing far due knows pace worth on met lost minute";

        int minute = 0;
        final int[] thingPlace = new int[THINGS_MOST];
        final int[] catPlace = new int[CATS_MOST];
        final int[] catOn = new int[CATS_MOST];
        final int[] knows = new int[CATS_MOST];
        int struck = 0;
        final int[] met = new int[NEEDS_MOST];
        final int[] lost = new int[NEEDS_MOST];
        // The CAT that is shut out, for a what-if alone.
        int away = NONE;
        // NEEDS that the last MINUTE met and lost, as bits: the counts may stand at their most.
        int metNow = 0;
        int lostNow = 0;

        void begin(Told told) {
            minute = 0;
            struck = 0;
            away = NONE;
            metNow = 0;
            lostNow = 0;
            System.arraycopy(told.thingPlace, 0, thingPlace, 0, THINGS_MOST);
            System.arraycopy(told.catPlace, 0, catPlace, 0, CATS_MOST);
            System.arraycopy(told.knows, 0, knows, 0, CATS_MOST);
            for (int cat = 0; cat < CATS_MOST; cat++) {
                catOn[cat] = NONE;
            }
            for (int need = 0; need < NEEDS_MOST; need++) {
                met[need] = 0;
                lost[need] = 0;
            }
        }

        void copyFrom(State other) {
            minute = other.minute;
            struck = other.struck;
            away = other.away;
            metNow = other.metNow;
            lostNow = other.lostNow;
            System.arraycopy(other.thingPlace, 0, thingPlace, 0, THINGS_MOST);
            System.arraycopy(other.catPlace, 0, catPlace, 0, CATS_MOST);
            System.arraycopy(other.catOn, 0, catOn, 0, CATS_MOST);
            System.arraycopy(other.knows, 0, knows, 0, CATS_MOST);
            System.arraycopy(other.met, 0, met, 0, NEEDS_MOST);
            System.arraycopy(other.lost, 0, lost, 0, NEEDS_MOST);
        }

        /** One MINUTE; it goes on beyond 999, which the ACT itself looks to. */
        void pass(Told told, Rule rule) {
            for (int cat = 0; cat < told.cats; cat++) {
                if (cat != away) {
                    int thing = rule == null ? foreseen(told, cat) : favoured(told, cat, rule);
                    goTowards(told, cat, thing);
                }
            }
            metNow = 0;
            lostNow = 0;
            for (int need = 0; need < told.needs; need++) {
                if (isDue(told, need, minute)) {
                    settle(told, need);
                }
            }
            minute++;
        }

        private int foreseen(Told told, int cat) {
            for (int need = 0; need < told.needs; need++) {
                if (isDue(told, need, minute + knows[cat])) {
                    return told.needThing[need];
                }
            }
            return NONE;
        }

        private int favoured(Told told, int cat, Rule rule) {
            int best = NONE;
            long most = 0;
            for (int thing = 0; thing < told.things; thing++) {
                long value = rule.valueFor(told, this, cat, thing);
                if (value > most) {
                    most = value;
                    best = thing;
                }
            }
            return best;
        }

        private void goTowards(Told told, int cat, int thing) {
            if (thing == NONE) {
                return;
            }
            int way = thingPlace[thing] - catPlace[cat];
            int steps = Math.min(Math.abs(way), told.pace[cat]);
            catPlace[cat] += way < 0 ? -steps : steps;
            catOn[cat] = catPlace[cat] == thingPlace[thing] ? thing : NONE;
        }

        private void settle(Told told, int need) {
            if (catsOn(told, told.needThing[need]) == 0) {
                met[need] = Math.min(met[need] + 1, TIMES_MOST);
                metNow |= 1 << need;
            } else {
                lost[need] = Math.min(lost[need] + 1, TIMES_MOST);
                lostNow |= 1 << need;
            }
        }

        boolean isStruck(int need) {
            return (struck >> need & 1) != 0;
        }

        private boolean isDue(Told told, int need, int when) {
            int every = told.every[need];
            return !isStruck(need) && every > 0 && when % every == told.at[need];
        }

        int dueNow(Told told) {
            int set = 0;
            for (int need = 0; need < told.needs; need++) {
                if (isDue(told, need, minute)) {
                    set |= 1 << need;
                }
            }
            return set;
        }

        /** In how many MINUTES a THING is needed next; NEVER, if no NEED is left for it. */
        int dueIn(Told told, int thing) {
            int least = NEVER;
            for (int need = 0; need < told.needs; need++) {
                int every = told.every[need];
                if (told.needThing[need] == thing && (struck >> need & 1) == 0 && every > 0) {
                    int wait = told.at[need] - minute % every;
                    wait = wait < 0 ? wait + every : wait;
                    least = wait < least ? wait : least;
                }
            }
            return least;
        }

        /** Whether no NEED tells a MINUTE from the one so much later. */
        boolean needsRound(Told told, int later) {
            for (int need = 0; need < told.needs; need++) {
                int every = told.every[need];
                if (!isStruck(need) && every > 0 && later % every != 0) {
                    return false;
                }
            }
            return true;
        }

        int catsOn(Told told, int thing) {
            int set = 0;
            for (int cat = 0; cat < told.cats; cat++) {
                if (catOn[cat] == thing) {
                    set |= 1 << cat;
                }
            }
            return set;
        }

        /** Where all CATS are and what they are ON: 5 bits and 3 bits for each. */
        int catsAsNumber(Told told) {
            int all = 0;
            for (int cat = 0; cat < told.cats; cat++) {
                all = all << 8 | catPlace[cat] << 3 | catOn[cat] + 1;
            }
            return all;
        }

        int metOf(Told told, int thing) {
            int all = 0;
            for (int need = 0; need < told.needs; need++) {
                all += told.needThing[need] == thing ? met[need] : 0;
            }
            return all;
        }

        int lostOf(Told told, int thing) {
            int all = 0;
            for (int need = 0; need < told.needs; need++) {
                all += told.needThing[need] == thing ? lost[need] : 0;
            }
            return all;
        }

        int metInAll(Told told) {
            int all = 0;
            for (int need = 0; need < told.needs; need++) {
                all += met[need];
            }
            return all;
        }

        int lostInAll(Told told) {
            int all = 0;
            for (int need = 0; need < told.needs; need++) {
                all += lost[need];
            }
            return all;
        }

        /** What a CAT has from the last MINUTE, in a game of two. */
        int gain(Told told, int cat) {
            if (catOn[cat] == NONE) {
                return 0;
            }
            int all = 1;
            for (int need = 0; need < told.needs; need++) {
                if (told.needThing[need] == catOn[cat] && (lostNow >> need & 1) != 0) {
                    all += 2;
                }
            }
            return all;
        }

        void sendAway(int cat) {
            away = cat;
            if (cat >= 0 && cat < CATS_MOST) {
                catOn[cat] = NONE;
            }
        }

        void shift(Told told, int thing, int place) {
            thingPlace[thing] = place;
            for (int cat = 0; cat < told.cats; cat++) {
                if (catOn[cat] == thing) {
                    catOn[cat] = NONE;
                }
            }
        }

        long wordValue(Told told, int word, int cat, int thing) {
            switch (word) {
                case 0: return cat;
                case 1: return thing;
                case 2: return Math.abs(thingPlace[thing] - catPlace[cat]);
                case 3: return dueIn(told, thing);
                case 4: return knows[cat];
                case 5: return told.pace[cat];
                case 6: return told.worth[thing];
                case 7: return Integer.bitCount(catsOn(told, thing) & ~(1 << cat));
                case 8: return metOf(told, thing);
                case 9: return lostOf(told, thing);
                default: return minute;
            }
        }
    }

    /** All that an IMAGE holds. */
    private static final class Whole {
        final Told told = new Told();
        final State now = new State();
        final State[] past = new State[ACTS_MOST];
        int acts = 0;
        final int[] noteMinute = new int[NOTES_MOST];
        final int[] noteCat = new int[NOTES_MOST];
        final int[] noteThing = new int[NOTES_MOST];
        int notes = 0;
        int force = NONE;
        int x = 0;

        Whole() {
            for (int i = 0; i < ACTS_MOST; i++) {
                past[i] = new State();
            }
        }

        void enter(Told other) {
            told.copyFrom(other);
            now.begin(told);
            acts = 0;
            notes = 0;
        }

        void copyFrom(Whole other) {
            told.copyFrom(other.told);
            now.copyFrom(other.now);
            acts = other.acts;
            for (int i = 0; i < acts && i < ACTS_MOST; i++) {
                past[i].copyFrom(other.past[i]);
            }
            System.arraycopy(other.noteMinute, 0, noteMinute, 0, NOTES_MOST);
            System.arraycopy(other.noteCat, 0, noteCat, 0, NOTES_MOST);
            System.arraycopy(other.noteThing, 0, noteThing, 0, NOTES_MOST);
            notes = other.notes;
            force = other.force;
            x = other.x;
        }

        /** Keeps what is, ahead of an ACT; the oldest kept one makes way, if there are 20. */
        void keep() {
            if (acts >= ACTS_MOST) {
                State oldest = past[0];
                for (int i = 1; i < ACTS_MOST; i++) {
                    past[i - 1] = past[i];
                }
                past[ACTS_MOST - 1] = oldest;
                acts = ACTS_MOST - 1;
            }
            past[acts].copyFrom(now);
            acts++;
        }

        boolean takeBack() {
            if (acts <= 0) {
                return false;
            }
            acts--;
            now.copyFrom(past[acts]);
            return true;
        }

        boolean write(int n, int cat, int thing) {
            if (notes >= NOTES_MOST) {
                return false;
            }
            noteMinute[notes] = n;
            noteCat[notes] = cat;
            noteThing[notes] = thing;
            notes++;
            return true;
        }

        int lastNoted() {
            int last = NONE;
            for (int i = 0; i < notes; i++) {
                last = Math.max(last, noteMinute[i]);
            }
            return last;
        }

        boolean notesAgree(int n, State state) {
            for (int i = 0; i < notes; i++) {
                if (noteMinute[i] == n && state.catOn[noteCat[i]] != noteThing[i]) {
                    return false;
                }
            }
            return true;
        }
    }
}
