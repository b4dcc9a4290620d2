import java.util.ArrayList;
import java.util.HashMap;
import java.util.List;
import java.util.Map;

/**
 * The document once more, written apart from CatNeed and in another way (tokens, trees, copies),
 * so that drawn runs of calls can be compared. It may use all of Java, and is slow.
 */
final class Model {
    // ---- faults: a machine that goes along the tokens with a stack of what is open ----

    record Token(int at, char kind, String text) { }

    @SuppressWarnings("serial")
    static final class Fault extends RuntimeException {
        final int code;
        Fault(int place, int kind) {
            super(null, null, false, false);
            code = 1 + 8 * place + kind;
        }
    }

    static List<Token> tokens(String text) {
        List<Token> out = new ArrayList<>();
        int i = 0;
        while (i < text.length()) {
            char c = text.charAt(i);
            int j = i + 1;
            if (c == ' ') {
                i++;
                continue;
            }
            char kind = 's';
            if (c >= 'a' && c <= 'z') {
                kind = 'w';
                while (j < text.length() && text.charAt(j) >= 'a' && text.charAt(j) <= 'z') j++;
            } else if (c >= '0' && c <= '9') {
                kind = 'n';
                while (j < text.length() && text.charAt(j) >= '0' && text.charAt(j) <= '9') j++;
            } else if ((c == '<' || c == '>') && j < text.length() && text.charAt(j) == '=') {
                j++;
            }
            out.add(new Token(i, kind, text.substring(i, j)));
            i = j;
        }
        out.add(new Token(text.length(), 'e', ""));
        return out;
    }

    static int number(Token t, int least, int most) {
        if (t.kind != 'n') throw new Fault(t.at, 0);
        if (t.text.length() > 5) throw new Fault(t.at, 1);
        int v = Integer.parseInt(t.text);
        if (v < least || v > most) throw new Fault(t.at, 1);
        return v;
    }

    static final List<String> VALUE_WORDS = List.of("cat", "thing", "far", "due", "knows", "pace", "worth", "on", "met", "lost", "minute");

    /** 0, or the FAULT of a RULE's text. */
    static int ruleFault(String text) {
        try {
            checkRule(text);
            return 0;
        } catch (Fault f) {
            return f.code;
        }
    }

    static void checkRule(String text) {
        List<Token> ts = tokens(text);
        StringBuilder open = new StringBuilder();
        int clauses = 0;
        int counted = 0;
        String state = "clause";
        String part = "";
        for (Token t : ts) {
            boolean opens = t.text.equals("[") || t.text.equals("not");
            if (state.equals("clause")) {
                if (!t.text.equals("lie")) throw new Fault(t.at, 0);
                if (++clauses > 12) throw new Fault(t.at, 4);
                state = "value";
                part = "sum";
            } else if (state.equals("fact") && opens) {
                if (open.length() == 10) throw new Fault(t.at, 2);
                open.append(t.text.equals("[") ? '[' : 'n');
            } else if (state.equals("fact") || state.equals("value")) {
                if (state.equals("fact")) part = "left";
                if (t.kind == 'n') number(t, 0, 99999);
                else if (t.kind != 'w' || !VALUE_WORDS.contains(t.text)) throw new Fault(t.at, 0);
                if (++counted > 60) throw new Fault(t.at, 3);
                state = "after";
            } else {
                boolean sumCanGoOn = state.equals("after");
                boolean factDone = state.equals("done") || part.equals("right");
                if (sumCanGoOn && t.text.length() == 1 && "+-*/%".contains(t.text)) {
                    state = "value";
                } else if (sumCanGoOn && part.equals("left") && List.of("<", "<=", "=", ">=", ">").contains(t.text)) {
                    if (++counted > 60) throw new Fault(t.at, 3);
                    state = "value";
                    part = "right";
                } else if (sumCanGoOn && part.equals("sum") && t.text.equals("if")) {
                    state = "fact";
                } else if (sumCanGoOn && part.equals("sum") && t.text.equals(";")) {
                    state = "clause";
                } else if (sumCanGoOn && part.equals("sum") && t.kind == 'e') {
                    return;
                } else if (factDone) {
                    while (open.length() > 0 && open.charAt(open.length() - 1) == 'n') open.setLength(open.length() - 1);
                    if (t.text.equals("and") || t.text.equals("or")) {
                        state = "fact";
                    } else if (t.text.equals("]") && open.length() > 0) {
                        open.setLength(open.length() - 1);
                        state = "done";
                    } else if (t.text.equals(";") && open.length() == 0) {
                        state = "clause";
                    } else if (t.kind == 'e' && open.length() == 0) {
                        return;
                    } else {
                        throw new Fault(t.at, 0);
                    }
                } else {
                    throw new Fault(t.at, 0);
                }
            }
        }
        throw new IllegalStateException("the end was not looked at: " + text);
    }

    // ---- rules as trees ----

    interface Sum { long of(Map<String, Long> words); }
    interface Test { boolean of(Map<String, Long> words); }
    record Clause(Sum sum, Test test) { }

    static List<List<Token>> split(List<Token> ts, String... at) {
        List<List<Token>> out = new ArrayList<>();
        List<Token> part = new ArrayList<>();
        int deep = 0;
        for (Token t : ts) {
            if (t.text.equals("[")) deep++;
            if (t.text.equals("]")) deep--;
            if (deep == 0 && List.of(at).contains(t.text)) {
                out.add(part);
                part = new ArrayList<>();
                if (at.length > 1) {
                    part.add(t);
                }
            } else {
                part.add(t);
            }
        }
        out.add(part);
        return out;
    }

    static Sum value(Token t) {
        if (t.kind == 'n') {
            long v = Long.parseLong(t.text);
            return w -> v;
        }
        return w -> w.get(t.text);
    }

    /** From the right: the last + or - on this level parts it, else the last * / or %. */
    static Sum sum(List<Token> ts) {
        for (String signs : new String[] {"+-", "*/%"}) {
            for (int i = ts.size() - 1; i >= 0; i--) {
                String sign = ts.get(i).text;
                if (sign.length() == 1 && signs.contains(sign)) {
                    Sum a = sum(ts.subList(0, i));
                    Sum b = sum(ts.subList(i + 1, ts.size()));
                    switch (sign) {
                        case "+": return w -> a.of(w) + b.of(w);
                        case "-": return w -> a.of(w) - b.of(w);
                        case "*": return w -> a.of(w) * b.of(w);
                        case "/": return w -> b.of(w) == 0 ? 0 : a.of(w) / b.of(w);
                        default: return w -> b.of(w) == 0 ? 0 : a.of(w) % b.of(w);
                    }
                }
            }
        }
        return value(ts.get(0));
    }

    static Test test(List<Token> ts) {
        List<List<Token>> parts = split(ts, "or");
        if (parts.size() > 1) {
            List<Test> tests = new ArrayList<>();
            for (List<Token> p : parts) tests.add(test(p));
            return w -> tests.stream().anyMatch(t -> t.of(w));
        }
        List<List<Token>> facts = split(ts, "and");
        if (facts.size() > 1) {
            List<Test> tests = new ArrayList<>();
            for (List<Token> p : facts) tests.add(test(p));
            return w -> tests.stream().allMatch(t -> t.of(w));
        }
        if (ts.get(0).text.equals("not")) {
            Test t = test(ts.subList(1, ts.size()));
            return w -> !t.of(w);
        }
        if (ts.get(0).text.equals("[")) return test(ts.subList(1, ts.size() - 1));
        List<List<Token>> sides = split(ts, "<", "<=", "=", ">=", ">");
        String sign = sides.get(1).get(0).text;
        Sum a = sum(sides.get(0));
        Sum b = sum(sides.get(1).subList(1, sides.get(1).size()));
        return w -> {
            int c = Long.compare(a.of(w), b.of(w));
            return c < 0 && sign.startsWith("<") || c == 0 && sign.contains("=") || c > 0 && sign.startsWith(">");
        };
    }

    static List<Clause> ruleTree(String text) {
        List<Clause> out = new ArrayList<>();
        List<Token> all = tokens(text);
        for (List<Token> clause : split(all.subList(0, all.size() - 1), ";")) {
            List<List<Token>> halves = split(clause.subList(1, clause.size()), "if");
            out.add(new Clause(sum(halves.get(0)), halves.size() > 1 ? test(halves.get(1)) : w -> true));
        }
        return out;
    }

    // ---- rooms ----

    static final class Room {
        int length = 0;
        List<int[]> things = new ArrayList<>();
        List<int[]> cats = new ArrayList<>();
        List<int[]> needs = new ArrayList<>();
    }

    static Room roomOf(String text) {
        Room room = new Room();
        List<Token> ts = tokens(text);
        int i = 0;
        for (int clauses = 1; ; clauses++) {
            Token word = ts.get(i++);
            int at = List.of("room", "thing", "cat", "need").indexOf(word.text);
            if (at < 0) throw new Fault(word.at, 0);
            if (clauses > 40 || (at == 0) != (clauses == 1)) throw new Fault(word.at, 4);
            if (at == 0) {
                room.length = number(ts.get(i++), 2, 30);
            } else {
                List<int[]> to = List.of(room.things, room.cats, room.needs).get(at - 1);
                if (to.size() == new int[] {6, 3, 8}[at - 1]) throw new Fault(word.at, 4);
                int[] v = new int[at == 1 ? 2 : 3];
                for (int k = 0; k < v.length; k++) {
                    Token t = ts.get(i++);
                    if (at == 1) v[k] = number(t, 0, k == 0 ? room.length - 1 : 50);
                    if (at == 2) v[k] = number(t, k == 0 ? 0 : 1, k == 0 ? room.length - 1 : 9);
                    if (at == 3) v[k] = number(t, k == 1 ? 1 : 0, k == 0 ? room.things.size() - 1 : k == 1 ? 30 : v[1] - 1);
                }
                to.add(v);
            }
            Token t = ts.get(i++);
            if (t.kind == 'e') return room;
            if (!t.text.equals(";")) throw new Fault(t.at, 0);
        }
    }

    // ---- what changes ----

    static final class World {
        final Room room;
        int minute = 0;
        Map<Integer, Integer> places = new HashMap<>();
        Map<Integer, Integer> catPlaces = new HashMap<>();
        Map<Integer, Integer> on = new HashMap<>();
        Map<Integer, Integer> knows = new HashMap<>();
        List<Integer> struck = new ArrayList<>();
        Map<Integer, Integer> met = new HashMap<>();
        Map<Integer, Integer> lost = new HashMap<>();
        List<Integer> metNow = new ArrayList<>();
        List<Integer> lostNow = new ArrayList<>();
        List<Integer> gone = new ArrayList<>();

        World(Room room) {
            this.room = room;
            for (int i = 0; i < room.things.size(); i++) places.put(i, room.things.get(i)[0]);
            for (int i = 0; i < room.cats.size(); i++) {
                catPlaces.put(i, room.cats.get(i)[0]);
                knows.put(i, room.cats.get(i)[2]);
            }
        }

        World copy() {
            World w = new World(room);
            w.minute = minute;
            w.places = new HashMap<>(places);
            w.catPlaces = new HashMap<>(catPlaces);
            w.on = new HashMap<>(on);
            w.knows = new HashMap<>(knows);
            w.struck = new ArrayList<>(struck);
            w.met = new HashMap<>(met);
            w.lost = new HashMap<>(lost);
            w.gone = new ArrayList<>(gone);
            return w;
        }

        boolean needed(int need, int when) {
            return !struck.contains(need) && when % room.needs.get(need)[1] == room.needs.get(need)[2];
        }

        int thingOf(int need) {
            return room.needs.get(need)[0];
        }

        int wait(int thing) {
            for (int i = 0; i < 60; i++) {
                for (int k = 0; k < room.needs.size(); k++) {
                    if (thingOf(k) == thing && needed(k, minute + i)) return i;
                }
            }
            return 99;
        }

        int times(Map<Integer, Integer> of, int thing) {
            int all = 0;
            for (int k = 0; k < room.needs.size(); k++) if (thing < 0 || thingOf(k) == thing) all += of.getOrDefault(k, 0);
            return all;
        }

        Map<String, Long> words(int cat, int thing) {
            long others = on.entrySet().stream().filter(e -> e.getKey() != cat && e.getValue() == thing).count();
            Map<String, Long> w = new HashMap<>();
            w.put("cat", (long) cat);
            w.put("thing", (long) thing);
            w.put("far", (long) Math.abs(places.get(thing) - catPlaces.get(cat)));
            w.put("due", (long) wait(thing));
            w.put("knows", (long) knows.get(cat));
            w.put("pace", (long) room.cats.get(cat)[1]);
            w.put("worth", (long) room.things.get(thing)[1]);
            w.put("on", others);
            w.put("met", (long) times(met, thing));
            w.put("lost", (long) times(lost, thing));
            w.put("minute", (long) minute);
            return w;
        }

        int wish(int cat, List<Clause> rule) {
            if (rule == null) {
                for (int k = 0; k < room.needs.size(); k++) if (needed(k, minute + knows.get(cat))) return thingOf(k);
                return -1;
            }
            int best = -1;
            long most = 0;
            for (int t = 0; t < room.things.size(); t++) {
                Map<String, Long> w = words(cat, t);
                long v = rule.stream().filter(c -> c.test.of(w)).findFirst().map(c -> c.sum.of(w)).orElse(0L);
                if (v > most) {
                    most = v;
                    best = t;
                }
            }
            return best;
        }

        World pass(List<Clause> rule) {
            for (int c = 0; c < room.cats.size(); c++) {
                if (gone.contains(c)) continue;
                int t = wish(c, rule);
                if (t < 0) continue;
                for (int s = 0; s < room.cats.get(c)[1]; s++) {
                    catPlaces.put(c, catPlaces.get(c) + Integer.signum(places.get(t) - catPlaces.get(c)));
                }
                on.remove(c);
                if (catPlaces.get(c).equals(places.get(t))) on.put(c, t);
            }
            metNow.clear();
            lostNow.clear();
            for (int k = 0; k < room.needs.size(); k++) {
                if (!needed(k, minute)) continue;
                boolean under = on.containsValue(thingOf(k));
                (under ? lostNow : metNow).add(k);
                (under ? lost : met).merge(k, 1, (a, b) -> Math.min(999, a + b));
            }
            minute++;
            return this;
        }

        World go(int n, List<Clause> rule) {
            for (int i = 0; i < n; i++) pass(rule);
            return this;
        }
    }

    // ---- the calls ----

    String tape = "";
    final List<List<Clause>> rules = new ArrayList<>();
    Room room = new Room();
    World now = new World(room);
    List<World> past = new ArrayList<>();
    List<int[]> notes = new ArrayList<>();
    int force = -1;
    long x = 0;

    record Kept(Room room, World now, List<World> past, List<int[]> notes, int force, long x) { }
    final Map<Integer, Kept> images = new HashMap<>();

    boolean in(int v, int least, int most) { return v >= least && v <= most; }
    boolean stands() { return room.length > 0; }
    boolean isThing(int t) { return in(t, 0, room.things.size() - 1); }
    boolean isCat(int c) { return in(c, 0, room.cats.size() - 1); }
    boolean isNeed(int k) { return in(k, 0, room.needs.size() - 1); }
    List<Clause> rule(int number) { return number < 0 ? null : rules.get(number); }

    int bits(List<Integer> of) {
        int set = 0;
        for (int i : of) set |= 1 << i;
        return set;
    }

    void act() {
        past.add(now.copy());
        if (past.size() > 20) past.remove(0);
    }

    int feed(int a, int b, int c, int d, int e) {
        if (tape.length() > 380) return -1;
        StringBuilder more = new StringBuilder(tape);
        for (int v : new int[] {a, b, c, d, e}) {
            for (byte by : java.nio.ByteBuffer.allocate(4).putInt(v).array()) more.append((char) (by & 0xff));
        }
        tape = more.toString();
        return tape.length();
    }

    int end(int n) {
        if (!in(n, 0, tape.length())) return -1;
        tape = tape.substring(0, n);
        return n;
    }

    int room() {
        String text = tape;
        tape = "";
        try {
            room = roomOf(text);
        } catch (Fault f) {
            return -2 - f.code;
        }
        now = new World(room);
        past = new ArrayList<>();
        notes = new ArrayList<>();
        return room.things.size();
    }

    int rule() {
        if (rules.size() == 6) return -1;
        String text = tape;
        tape = "";
        int fault = ruleFault(text);
        if (fault != 0) return -2 - fault;
        rules.add(ruleTree(text));
        return rules.size() - 1;
    }

    int force(int rule) {
        if (!in(rule, -1, rules.size() - 1)) return -2;
        int was = force;
        force = rule;
        return was;
    }

    int thing(int t, int what) {
        if (!isThing(t) || !in(what, 0, 4)) return -1;
        List<Integer> cats = new ArrayList<>();
        now.on.forEach((c, on) -> { if (on == t) cats.add(c); });
        return new int[] {now.places.get(t), room.things.get(t)[1], now.times(now.met, t), now.times(now.lost, t), bits(cats)}[what];
    }

    int cat(int c, int what) {
        if (!isCat(c) || !in(what, 0, 3)) return -2;
        return new int[] {now.catPlaces.get(c), room.cats.get(c)[1], now.knows.get(c), now.on.getOrDefault(c, -1)}[what];
    }

    int need(int k, int what) {
        if (!isNeed(k) || !in(what, 0, 5)) return -1;
        if (what < 3) return room.needs.get(k)[what];
        return new int[] {now.struck.contains(k) ? 1 : 0, now.met.getOrDefault(k, 0), now.lost.getOrDefault(k, 0)}[what - 3];
    }

    int minute() {
        if (!stands() || now.minute >= 999) return -1;
        act();
        return bits(now.pass(rule(force)).lostNow);
    }

    int lift(int c) {
        if (!isCat(c) || !now.on.containsKey(c)) return -1;
        act();
        now.catPlaces.put(c, 0);
        return now.on.remove(c);
    }

    int move(int t, int place) {
        if (!isThing(t) || !in(place, 0, room.length - 1) || now.places.get(t) == place || now.on.containsValue(t)) return -1;
        act();
        return now.places.put(t, place);
    }

    int strike(int k) {
        if (!isNeed(k)) return -1;
        act();
        if (now.struck.remove((Integer) k)) return 0;
        now.struck.add(k);
        return 1;
    }

    int teach(int c, int knows) {
        if (!isCat(c) || !in(knows, 1, 9) || now.knows.get(c) == knows) return -1;
        act();
        return now.knows.put(c, knows);
    }

    int undo() {
        if (past.isEmpty()) return -2;
        now = past.remove(past.size() - 1).copy();
        return past.size();
    }

    int ahead(int c, int n, int what) {
        if (!stands() || !in(n, 0, 100) || !in(what, 0, 3) || what < 2 && !isCat(c)) return -2;
        World w = now.copy().go(n, rule(force));
        if (what == 0) return w.catPlaces.get(c);
        if (what == 1) return w.on.getOrDefault(c, -1);
        return w.times(what == 2 ? w.met : w.lost, -1);
    }

    int due(int t) {
        if (!isThing(t)) return -1;
        int wait = now.wait(t);
        return wait == 99 ? -2 : now.minute + wait;
    }

    int served(int k) {
        if (!isNeed(k)) return -1;
        World w = now.copy();
        for (int i = 0; i < 100; i++) if (w.pass(rule(force)).metNow.contains(k)) return w.minute - 1;
        return -2;
    }

    int worthMet(World w, int n) {
        int all = 0;
        for (int i = 0; i < n; i++) for (int k : w.pass(rule(force)).metNow) all += room.things.get(w.thingOf(k))[1];
        return all;
    }

    int shut(int n, int what) {
        if (!stands() || !in(n, 1, 60) || !in(what, 0, 1)) return -2;
        int best = -1;
        int most = worthMet(now.copy(), n);
        for (int c = 0; c < room.cats.size(); c++) {
            World w = now.copy();
            w.gone.add(c);
            w.on.remove(c);
            int worth = worthMet(w, n);
            if (worth > most) {
                most = worth;
                best = c;
            }
        }
        return what == 0 ? best : most;
    }

    int moved(int t, int n, int what) {
        if (!isThing(t) || !in(n, 1, 60) || !in(what, 0, 1)) return -1;
        List<Integer> order = new ArrayList<>(List.of(now.places.get(t)));
        for (int p = 0; p < room.length; p++) order.add(p);
        int best = -1;
        int most = -1;
        for (int p : order) {
            World w = now.copy();
            if (w.places.put(t, p) != p) w.on.values().removeIf(on -> on == t);
            int worth = worthMet(w, n);
            if (worth > most) {
                most = worth;
                best = p;
            }
        }
        return what == 0 ? best : most;
    }

    int tray(int n, int what) {
        if (!stands() || !in(n, 1, 40) || !in(what, 0, 1)) return -1;
        for (int many = 0; many <= 8; many++) {
            for (int set = 0; set < 1 << room.needs.size(); set++) {
                if (Integer.bitCount(set) != many || (set & bits(now.struck)) != 0) continue;
                World w = now.copy();
                for (int k = 0; k < 8; k++) if ((set >> k & 1) == 1) w.struck.add(k);
                if (w.go(n, rule(force)).times(w.lost, -1) == now.times(now.lost, -1)) return what == 0 ? many : set;
            }
        }
        throw new IllegalStateException("no tray");
    }

    boolean notesHold(World w, List<Clause> rule) {
        for (int n = 0; n <= 60; n++) {
            for (int[] note : notes) if (note[0] == n && w.on.getOrDefault(note[1], -1) != note[2]) return false;
            w.pass(rule);
        }
        return true;
    }

    int knowing(int c, int what) {
        if (!isCat(c) || !in(what, 0, 1)) return -1;
        List<Integer> good = new ArrayList<>();
        for (int k = 1; k <= 9; k++) {
            World w = new World(room);
            w.knows.put(c, k);
            if (notesHold(w, rule(force))) good.add(k);
        }
        return what == 0 ? good.size() : good.isEmpty() ? -2 : good.get(0);
    }

    int rests(int one, int other, int n, int what) {
        if (!isCat(one) || !isCat(other) || one == other || !in(n, 1, 20) || !in(what, 0, 2)) return -1;
        int[][][] has = new int[10][10][2];
        for (int a = 1; a < 10; a += 2) {
            for (int b = 1; b < 10; b += 2) {
                World w = now.copy();
                w.knows.put(one, a);
                w.knows.put(other, b);
                for (int i = 0; i < n; i++) {
                    w.pass(rule(force));
                    for (int side = 0; side < 2; side++) {
                        Integer on = w.on.get(side == 0 ? one : other);
                        if (on == null) continue;
                        has[a][b][side]++;
                        for (int k : w.lostNow) if (w.thingOf(k) == on) has[a][b][side] += 2;
                    }
                }
            }
        }
        List<int[]> good = new ArrayList<>();
        for (int a = 1; a < 10; a += 2) {
            for (int b = 1; b < 10; b += 2) {
                boolean rest = true;
                for (int z = 1; z < 10; z += 2) {
                    if (has[z][b][0] > has[a][b][0] || has[a][z][1] > has[a][b][1]) rest = false;
                }
                if (rest) good.add(new int[] {good.size(), a, b});
            }
        }
        return what == 0 ? good.size() : good.isEmpty() ? -2 : good.get(0)[what];
    }

    int ring(int what) {
        if (!stands() || !in(what, 0, 1)) return -1;
        List<String> seen = new ArrayList<>();
        World w = now.copy();
        for (int i = 0; i <= 60; i++) {
            StringBuilder all = new StringBuilder().append(w.catPlaces).append(w.on);
            for (int k = 0; k < room.needs.size(); k++) {
                if (w.struck.contains(k)) continue;
                int far = 0;
                while (!w.needed(k, w.minute + far)) far++;
                all.append(' ').append(far);
            }
            seen.add(all.toString());
            w.pass(rule(force));
        }
        for (int i = 0; i < 60; i++) {
            for (int j = i + 1; j <= 60; j++) {
                if (seen.get(i).equals(seen.get(j))) return what == 0 ? now.minute + i : j - i;
            }
        }
        return -2;
    }

    int pence(int much, int t) {
        if (!in(much, 0, 9999) || !isThing(t)) return -1;
        int size = room.things.size();
        long all = 0;
        for (int i = 0; i < size; i++) all += (long) room.things.get(i)[1] * now.times(now.met, i);
        if (all == 0) return 0;
        long[] part = new long[size];
        List<Integer> order = new ArrayList<>();
        long left = much;
        for (int i = 0; i < size; i++) {
            part[i] = much * (long) room.things.get(i)[1] * now.times(now.met, i) / all;
            left -= part[i];
            order.add(i);
        }
        final long whole = all;
        order.sort((i, j) -> Long.compare(lostBy(j, much, whole, part), lostBy(i, much, whole, part)));
        for (int i = 0; i < left; i++) part[order.get(i)]++;
        return (int) part[t];
    }

    long lostBy(int i, int much, long all, long[] part) {
        return much * (long) room.things.get(i)[1] * now.times(now.met, i) - part[i] * all;
    }

    int note(int n, int c, int t) {
        if (n == -1) {
            notes = new ArrayList<>();
            return 0;
        }
        if (!in(n, 0, 60) || !isCat(c) || t != -1 && !isThing(t) || notes.size() == 10) return -2;
        notes.add(new int[] {n, c, t});
        return notes.size();
    }

    List<Integer> holding() {
        List<Integer> good = new ArrayList<>();
        for (int r = -1; r < rules.size(); r++) if (notesHold(new World(room), rule(r))) good.add(r);
        return good;
    }

    int ruled(int what) {
        if (!stands() || !in(what, 0, 1)) return -3;
        List<Integer> good = holding();
        return what == 0 ? good.size() : good.isEmpty() ? -2 : good.get(0);
    }

    int look(int n, int what) {
        if (!stands() || !in(n, 0, 60) || !in(what, 0, 1)) return -1;
        List<Integer> good = holding();
        if (good.isEmpty() || room.cats.isEmpty()) return -2;
        int best = -1;
        int fewest = 99;
        for (int c = 0; c < room.cats.size(); c++) {
            Map<Integer, Integer> groups = new HashMap<>();
            for (int r : good) groups.merge(new World(room).go(n, rule(r)).on.getOrDefault(c, -1), 1, Integer::sum);
            int most = groups.values().stream().max(Integer::compare).get();
            if (most < fewest) {
                fewest = most;
                best = c;
            }
        }
        return what == 0 ? best : fewest;
    }

    int seed(int to) {
        if (to < 0) return -1;
        int was = (int) x;
        x = to;
        return was;
    }

    int visits(int m, int n, int p, int what) {
        if (!stands() || !in(m, 1, 10) || !in(n, 1, 60) || !in(p, 0, 100) || !in(what, 0, 1)) return -1;
        long[] draw = {x};
        java.util.function.IntSupplier next = () -> {
            draw[0] = (draw[0] * 1103515245L + 12345L) & 0x7fffffffL;
            return (int) (draw[0] >> 16);
        };
        int[] have = new int[2];
        for (int i = 0; i < m; i++) {
            World w = now.copy();
            for (int k = 0; k < n; k++) {
                int wanted = -1;
                if (next.getAsInt() % 100 < p && !room.things.isEmpty()) wanted = next.getAsInt() % room.things.size();
                w.pass(rule(force));
                if (wanted >= 0) have[w.on.containsValue(wanted) ? 1 : 0]++;
            }
        }
        return have[what];
    }

    int count(int what) {
        if (!in(what, 0, 13)) return -1;
        List<Integer> needed = new ArrayList<>();
        for (int k = 0; k < room.needs.size(); k++) if (now.needed(k, now.minute)) needed.add(k);
        return new int[] {room.length, room.things.size(), room.cats.size(), room.needs.size(), rules.size(), force, now.minute,
            bits(needed), now.times(now.met, -1), now.times(now.lost, -1), notes.size(), past.size(), (int) x, tape.length()}[what];
    }

    int image(int k) {
        if (!in(k, 0, 3)) return -1;
        images.put(k, new Kept(room, now.copy(), new ArrayList<>(past), new ArrayList<>(notes), force, x));
        return now.minute;
    }

    int back(int k) {
        if (!in(k, 0, 3) || !images.containsKey(k)) return -1;
        Kept kept = images.get(k);
        room = kept.room;
        now = kept.now.copy();
        past = new ArrayList<>();
        for (World w : kept.past) past.add(w.copy());
        notes = new ArrayList<>(kept.notes);
        force = kept.force;
        x = kept.x;
        return now.minute;
    }
}
