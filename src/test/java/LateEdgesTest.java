import java.lang.reflect.Field;

/**
 * The sentences of the document that name 999. No run of 512 calls comes there, so these tests put
 * an object there by its private fields; where a class has no such fields, they look at nothing.
 */
public final class LateEdgesTest extends Edges {
    private static Object within(Object of, String name) throws ReflectiveOperationException {
        Field field = of.getClass().getDeclaredField(name);
        field.setAccessible(true);
        return field.get(of);
    }

    /** The object as it would be in a late MINUTE, each of its NEEDS so often MET and LOST. */
    private static CatNeed late(CatNeed x, int minute, int met, int lost) throws ReflectiveOperationException {
        Object now = within(within(x, "here"), "now");
        Field field = now.getClass().getDeclaredField("minute");
        field.setAccessible(true);
        field.setInt(now, minute);
        java.util.Arrays.fill((int[]) within(now, "met"), met);
        java.util.Arrays.fill((int[]) within(now, "lost"), lost);
        return x;
    }

    private static void minutes() throws ReflectiveOperationException {
        says(10, "MINUTE is 1 more (999 at most)");
        CatNeed x = late(in("room 9;thing 4 1;cat 0 1 1;need 0 9 0", "lie 1"), 997, 0, 0);
        due("minute() at 997", x.minute(), 0);
        due("minute() at 998", x.minute(), 0);
        due("count(6)", x.count(6), 999);

        says(10, "NONE, and nothing happens, without a ROOM, or at MINUTE 999");
        String before = seen(x);
        due("minute() at 999", x.minute(), -1);
        due("minute() at 999, again", x.minute(), -1);
        same("all", seen(x), before);
        due("image(0)", x.image(0), 999);
        due("undo()", x.undo(), 1);
        due("minute() at 998", x.minute(), 0);
        due("minute() at 999", x.minute(), -1);
        due("back(0)", x.back(0), 999);
        due("other ACTS at 999: strike(0)", x.strike(0), 1);

        says(10, "999 of each at most");
        CatNeed y = late(in("room 9;thing 4 1;thing 4 1;cat 4 1 1;need 0 1 0;need 1 1 0;need 1 1 0", "lie 1"), 500, 998, 998);
        due("minute()", y.minute(), 1);
        due("MET", y.need(1, 4), 999);
        due("LOST", y.need(0, 5), 999);
        due("minute()", y.minute(), 1);
        due("MET", y.need(1, 4), 999);
        due("LOST", y.need(0, 5), 999);
        due("not MET", y.need(0, 4), 998);
        due("of a THING, together", y.thing(1, 2), 2 * 999);
        due("of all, together", y.count(8), 998 + 2 * 999);
        due("AHEAD, MET", y.ahead(0, 5, 2), 998 + 2 * 999);
        due("AHEAD, LOST", y.ahead(0, 5, 3), 999 + 2 * 998);
    }

    private static void beyond() throws ReflectiveOperationException {
        says(16, "MINUTES go on by the RULE IN FORCE, beyond 999, too");
        CatNeed x = late(in("room 9;thing 4 1;cat 0 1 1;need 0 30 29", "lie 1 if minute>=999 and minute<1002"), 999, 0, 0);
        int[] places = {0, 1, 2, 3, 3};
        for (int n = 0; n < places.length; n++) {
            due("ahead(0, " + n + ", 0) at 999", x.ahead(0, n, 0), places[n]);
        }
        due("ahead(0, 100, 2)", x.ahead(0, 100, 2), 3);
        due("due(0) at 999", x.due(0), 1019);
        due("served(0) at 999", x.served(0), 1019);
        due("ring(0) at 999", x.ring(0), 1002);
        due("ring(1) at 999", x.ring(1), 30);
        due("visits(2, 60, 100, 0) at 999", x.visits(2, 60, 100, 0), 120);
        CatNeed w = late(in("room 9;thing 4 1;cat 4 1 1;cat 4 1 1;need 0 30 10", "lie 1 if minute>999"), 999, 0, 0);
        due("tray(1, 0) at 999", w.tray(1, 0), 0);
        due("tray(2, 0) at 999", w.tray(2, 0), 1);
        due("rests(0, 1, 20, 0) at 999", w.rests(0, 1, 20, 0), 25);

        says(19, "the WORTH of all that is MET in these, each time (beyond 999 of a NEED, too), is most");
        CatNeed y = late(in("room 9;thing 4 7;thing 4 1;cat 4 1 1;need 0 1 0;need 1 1 0", "lie 1"), 500, 990, 990);
        due("shut(60, 0)", y.shut(60, 0), 0);
        due("shut(60, 1)", y.shut(60, 1), 60 * 8);

        says(20, "the WORTH of all that is MET in these, each time (beyond 999 of a NEED, too), is most");
        due("moved(1, 60, 0)", y.moved(1, 60, 0), 4);
        due("moved(1, 60, 1)", y.moved(1, 60, 1), 60);
        CatNeed v = late(in("room 9;thing 4 7;need 0 1 0"), 500, 999, 0);
        due("moved(0, 60, 1)", v.moved(0, 60, 1), 60 * 7);
        due("shut(60, 1)", v.shut(60, 1), 60 * 7);

        says(18, "(SERVED: also when it was MET 999 times)");
        due("served(0)", v.served(0), 500);

        says(21, "(TRAY: also when it was LOST 999 times)");
        CatNeed z = late(in("room 9;thing 4 7;cat 4 1 1;cat 4 1 1;need 0 1 0", "lie 1 if knows=3"), 500, 999, 999);
        due("tray(1, 0), none ON it", z.tray(1, 0), 0);
        z.teach(0, 3);
        due("tray(1, 0), one ON it", z.tray(1, 0), 1);

        says(23, "(RESTS: also when it was LOST 999 times)");
        due("rests(0, 1, 2, 0)", z.rests(0, 1, 2, 0), 1);
        due("rests(0, 1, 2, 1)", z.rests(0, 1, 2, 1), 3);
    }

    public static void main(String[] args) throws ReflectiveOperationException {
        try {
            late(in("room 2"), 999, 999, 999);
        } catch (NoSuchFieldException e) {
            System.out.println("edges of late minutes: nothing looked at, there is no field " + e.getMessage());
            return;
        }
        minutes();
        beyond();
        finish("edges of late minutes");
    }
}
