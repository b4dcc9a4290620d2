import java.lang.reflect.InvocationTargetException;
import java.lang.reflect.Method;
import java.util.HashMap;
import java.util.List;
import java.util.Map;
import java.util.Random;

/** Drawn runs of calls, each answer compared with the Model's. The seeds are fixed. */
public final class DrawnRunsTest {
    private static final String[] CALLS = {
        "feed", "end", "room", "rule", "force", "thing", "cat", "need", "minute", "lift", "move", "strike", "teach", "undo", "ahead",
        "due", "served", "shut", "moved", "tray", "knowing", "rests", "ring", "pence", "note", "ruled", "look", "seed", "visits",
        "count", "image", "back"};
    private static final int CALLS_IN_A_RUN = 512;
    private static final Map<String, Method> MINE = methodsOf(CatNeed.class);
    private static final Map<String, Method> MODELS = methodsOf(Model.class);

    private final Random random;
    private final CatNeed mine = new CatNeed();
    private final Model model = new Model();
    private final StringBuilder told = new StringBuilder();
    private int calls = 0;
    private int wrong = 0;

    private DrawnRunsTest(long seed) {
        random = new Random(seed);
    }

    private static Map<String, Method> methodsOf(Class<?> type) {
        Map<String, Method> out = new HashMap<>();
        for (Method m : type.getDeclaredMethods()) {
            if (List.of(CALLS).contains(m.getName()) && m.getReturnType() == int.class) {
                out.put(m.getName(), m);
            }
        }
        return out;
    }

    private static String answer(Map<String, Method> methods, Object of, String call, int[] a) {
        Object[] arguments = new Object[a.length];
        for (int i = 0; i < a.length; i++) {
            arguments[i] = a[i];
        }
        try {
            return methods.get(call).invoke(of, arguments).toString();
        } catch (InvocationTargetException e) {
            return e.getCause().toString();
        } catch (IllegalAccessException e) {
            throw new IllegalStateException(e);
        }
    }

    private int below(int n) {
        return random.nextInt(n);
    }

    private boolean now(int percent) {
        return below(100) < percent;
    }

    private void call(String name, int... a) {
        if (calls >= CALLS_IN_A_RUN || wrong > 0) {
            return;
        }
        calls++;
        told.append(name).append(java.util.Arrays.toString(a)).append('\n');
        String want = answer(MODELS, model, name, a);
        String got = answer(MINE, mine, name, a);
        if (!got.equals(want)) {
            wrong++;
            System.out.println(told + "answered " + got + ", due is " + want);
        }
    }

    private void tell(String text, String as) {
        byte[] bytes = text.getBytes(java.nio.charset.StandardCharsets.ISO_8859_1);
        int size = Math.min(400, bytes.length);
        told.append("\"").append(text).append("\"\n");
        for (int i = 0; i < size; i += 20) {
            byte[] twenty = java.util.Arrays.copyOfRange(bytes, i, i + 20);
            java.nio.ByteBuffer words = java.nio.ByteBuffer.wrap(twenty);
            call("feed", words.getInt(), words.getInt(), words.getInt(), words.getInt(), words.getInt());
        }
        call("end", size);
        call(as);
    }

    private String blanks() {
        return now(80) ? "" : " ".repeat(below(3));
    }

    private String roomText() {
        int length = now(70) ? 2 + below(8) : 2 + below(29);
        StringBuilder out = new StringBuilder("room " + length);
        int things = now(10) ? below(8) : 1 + below(6);
        int cats = now(10) ? below(5) : 1 + below(3);
        int needs = now(10) ? below(10) : 1 + below(8);
        for (int i = 0; i < things; i++) {
            out.append(blanks()).append(";").append(blanks()).append("thing ").append(below(length)).append(" ").append(below(now(90) ? 10 : 51));
        }
        for (int i = 0; i < cats; i++) {
            out.append(";cat ").append(below(length)).append(" ").append(1 + below(now(60) ? 3 : 9)).append(blanks()).append(" ").append(1 + below(9));
        }
        for (int i = 0; i < needs; i++) {
            int every = 1 + below(now(70) ? 10 : 30);
            out.append("; need ").append(below(Math.max(1, things))).append(" ").append(every).append(" ").append(below(every));
        }
        return spoiled(out.toString());
    }

    /** Mostly the text as it is; else with a byte or two changed, left out or put in. */
    private String spoiled(String text) {
        if (now(75)) {
            return text;
        }
        StringBuilder out = new StringBuilder(text);
        String signs = "0123456789 ;;[]<>=+-*/%abdefhilnotrwi\u0000\u00e9Z~";
        for (int i = 0; i <= below(2); i++) {
            int at = below(out.length() + 1);
            char c = signs.charAt(below(signs.length()));
            int how = below(3);
            if (how == 0 || at == out.length()) {
                out.insert(at, c);
            } else if (how == 1) {
                out.setCharAt(at, c);
            } else {
                out.deleteCharAt(at);
            }
        }
        return now(90) ? out.toString() : out.substring(0, below(out.length() + 1));
    }

    private String value() {
        if (now(40)) {
            return now(90) ? "" + below(12) : "" + below(110000);
        }
        return Model.VALUE_WORDS.get(below(Model.VALUE_WORDS.size()));
    }

    private String sum() {
        StringBuilder out = new StringBuilder(value());
        for (int i = below(now(90) ? 4 : 12); i > 0; i--) {
            out.append(blanks()).append("+-*/%".charAt(below(5))).append(blanks()).append(value());
        }
        return out.toString();
    }

    private String fact(int deep) {
        int kind = deep > 12 ? 9 : below(10);
        if (kind < 2) {
            return "not " + fact(deep + 1);
        }
        if (kind < 4) {
            return "[" + test(deep + 1) + blanks() + "]";
        }
        String[] signs = {"<", "<=", "=", ">=", ">"};
        return sum() + blanks() + signs[below(5)] + blanks() + sum();
    }

    private String test(int deep) {
        StringBuilder out = new StringBuilder(fact(deep));
        for (int i = below(4) - 1; i > 0; i--) {
            out.append(now(50) ? " and " : " or ").append(fact(deep));
        }
        return out.toString();
    }

    private String ruleText() {
        StringBuilder out = new StringBuilder();
        for (int i = now(90) ? below(3) : below(14); i >= 0; i--) {
            out.append("lie ").append(sum());
            if (now(60)) {
                out.append(" if ").append(test(0));
            }
            out.append(i > 0 ? ";" : "").append(blanks());
        }
        return spoiled(out.toString());
    }

    /** Texts made to be deep or long, so that faults 2 to 4 come. */
    private String extremeRule() {
        switch (below(4)) {
            case 0: return "lie 1 if " + (now(50) ? "not [" : "[").repeat(4 + below(8)) + "1=1" + "]".repeat(4 + below(8));
            case 1: return "lie 1" + "+far".repeat(56 + below(6)) + " if 1" + (now(50) ? "=" : "+1=") + "1";
            case 2: return "lie 1" + ";lie 1".repeat(9 + below(5));
            default: return "lie 1 if " + "not ".repeat(7 + below(6)) + "far=1 or 1" + "+1".repeat(50 + below(8)) + "<2";
        }
    }

    private int argument() {
        if (now(3)) {
            int[] wild = {Integer.MIN_VALUE, Integer.MAX_VALUE, -3, -2, 100, 101, 999, 65536};
            return wild[below(wild.length)];
        }
        return now(85) ? below(6) : below(64) - 2;
    }

    private void drawnCall() {
        int which = 4 + below(CALLS.length - 4);
        int[] a = new int[MINE.get(CALLS[which]).getParameterCount()];
        for (int i = 0; i < a.length; i++) {
            a[i] = argument();
        }
        String name = CALLS[which];
        if (now(30) && a.length > 0) {
            a[a.length - 1] = below(14);
        }
        if (name.equals("ahead") || name.equals("moved")) {
            a[1] = below(62);
        } else if (name.equals("shut") || name.equals("tray") || name.equals("look")) {
            a[0] = below(43);
        } else if (name.equals("rests")) {
            a[0] = below(4);
            a[1] = below(4);
            a[2] = below(22);
            a[3] = below(3);
        } else if (name.equals("visits")) {
            a[0] = now(90) ? 1 + below(4) : below(12);
            a[1] = below(30);
            a[2] = now(90) ? below(101) : below(103) - 1;
            a[3] = below(2);
        } else if (name.equals("pence")) {
            a[0] = now(90) ? below(200) : below(10002) - 1;
        } else if (name.equals("seed")) {
            a[0] = random.nextInt();
        } else if (name.equals("back") && now(70) || name.equals("lift") && now(60)) {
            return;
        } else if (name.equals("note")) {
            noteDrawn();
            return;
        }
        call(name, a);
    }

    /** Mostly what is so by one of the RULES, so that NOTES hold now and then. */
    private void noteDrawn() {
        if (now(15)) {
            call("note", -1, 0, 0);
            return;
        }
        int n = below(now(90) ? 20 : 64);
        int cat = below(3);
        int thing = below(7) - 1;
        if (now(85) && model.isCat(cat)) {
            int rule = now(40) ? model.force : below(model.rules.size() + 1) - 1;
            thing = new Model.World(model.room).go(n, model.rule(rule)).on.getOrDefault(cat, -1);
        }
        call("note", n, cat, thing);
    }

    private int run(boolean longRun) {
        if (now(20)) {
            for (int i = 0; i < 12; i++) {
                drawnCall();
            }
        }
        for (int i = below(4); i > 0; i--) {
            tell(ruleText(), "rule");
        }
        tell(roomText(), "room");
        while (calls < (longRun ? CALLS_IN_A_RUN : 150) && wrong == 0) {
            int kind = below(100);
            if (kind < 2) {
                tell(roomText(), "room");
            } else if (kind < 4) {
                tell(now(75) ? ruleText() : extremeRule(), "rule");
            } else if (kind < 6) {
                call("force", below(model.rules.size() + 2) - 1);
            } else if (kind < 30) {
                call("minute");
            } else {
                drawnCall();
            }
        }
        return wrong;
    }

    private static int faults(int many, long seed) {
        int wrong = 0;
        for (int i = 0; i < many && wrong < 5; i++) {
            DrawnRunsTest t = new DrawnRunsTest(seed + i);
            for (int k = 0; k < 12 && t.wrong == 0; k++) {
                t.tell(t.now(50) ? t.spoiled(t.roomText()) : t.roomText(), "room");
                t.tell(t.now(30) ? t.extremeRule() : t.spoiled(t.ruleText()), "rule");
            }
            wrong += t.wrong;
        }
        return wrong;
    }

    public static void main(String[] args) {
        int many = args.length > 0 ? Integer.parseInt(args[0]) : 400;
        long seed = args.length > 1 ? Long.parseLong(args[1]) : 20261118L;
        int wrong = faults(many * 5, seed);
        for (int i = 0; i < many && wrong < 5; i++) {
            wrong += new DrawnRunsTest(seed + i).run(i % 10 == 0);
        }
        System.out.println(wrong == 0 ? "drawn runs: all answers are as due" : "drawn runs: " + wrong + " runs are not as due");
        if (wrong != 0) {
            System.exit(1);
        }
    }
}
