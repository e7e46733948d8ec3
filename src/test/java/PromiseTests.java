import java.util.function.IntSupplier;

/** For each promise: ordinary calls, the edges that the document names, and calls that are refused. */
public final class PromiseTests {
    private static final int NONE = -9;
    private static int wrong = 0;
    private static int asked = 0;
    private static int refusals = 0;

    public static void main(String[] args) {
        newObject();
        office();
        staff();
        way();
        shut();
        far();
        late();
        hours();
        move();
        is();
        list();
        man();
        state();
        stateOf();
        manAt();
        mail();
        feed();
        order();
        faults();
        holds();
        letters();
        keep();
        mailOf();
        goal();
        next();
        trace();
        fro();
        after();
        paid();
        cover();
        sure();
        sack();
        best();
        put();
        judge();
        waiting();
        count();
        hourOrder();
        queueOrder();
        ordersLate();
        turning();
        wayChoice();
        System.out.println(asked + " answers asked for");
        System.out.println(wrong == 0 ? "all answers are as due" : wrong + " answers are not as due");
        if (wrong != 0) {
            System.exit(1);
        }
    }

    private static void due(int promise, String call, int got, int want) {
        asked++;
        if (got != want) {
            wrong++;
            System.out.println("promise " + promise + ": " + call + " answered " + got + ", due is " + want);
        }
    }

    /**
     * A refused call answers its number, is counted under it, and changes no other count. One other count is
     * looked at, each time the next one: all of them would be more calls than an object is promised for.
     */
    private static void refused(int promise, FieldPost x, String call, IntSupplier made, int number) {
        int own = 10 - number;
        int other = (own + 1 + refusals++ % 18) % 19;
        int ownBefore = x.count(own);
        int otherBefore = x.count(other);
        due(promise, call, made.getAsInt(), number);
        due(promise, "count(" + own + ") behind the refused " + call, x.count(own), ownBefore + 1);
        due(promise, "count(" + other + ") behind the refused " + call, x.count(other), otherBefore);
    }

    private static int text(FieldPost x, int purpose, String text) {
        for (int i = 0; i < text.length(); i++) {
            x.feed(1, text.charAt(i));
        }
        return x.order(purpose);
    }

    /** OFFICES 0 .. n-1 in a line, WAYS of one HOUR that leave each HOUR. */
    private static FieldPost line(int n, boolean wired) {
        FieldPost x = new FieldPost();
        for (int i = 0; i < n; i++) {
            x.office(99, wired);
        }
        for (int i = 0; i + 1 < n; i++) {
            x.way(i, i + 1, 1, 0, 1);
        }
        return x;
    }

    private static void newObject() {
        FieldPost x = new FieldPost();
        for (int what = 0; what <= 18; what++) {
            due(1, "count(" + what + ") of a new object", x.count(what), 0);
        }
        due(1, "is(0, 0)", x.is(0, 0), NONE);
        due(1, "best(0)", x.best(0), 0);
        refused(1, x, "waiting(0)", () -> x.waiting(0), -1);
        refused(1, x, "mailOf(0, 0)", () -> x.mailOf(0, 0), -1);
        due(1, "another object's count(11)", new FieldPost().count(11), 0);
    }

    private static void office() {
        FieldPost x = new FieldPost();
        refused(2, x, "office(-1, true)", () -> x.office(-1, true), -4);
        refused(2, x, "office(100, true)", () -> x.office(100, true), -6);
        due(2, "office(0, true)", x.office(0, true), 0);
        due(2, "office(99, false)", x.office(99, false), 1);
        for (int i = 2; i < 12; i++) {
            due(2, "office(5, true)", x.office(5, true), i);
        }
        refused(2, x, "a thirteenth office", () -> x.office(5, true), -6);
        refused(2, x, "a thirteenth office with hands below", () -> x.office(-5, true), -4);
        due(2, "count(1)", x.count(1), 12);
    }

    private static void staff() {
        FieldPost x = new FieldPost();
        x.office(7, false);
        x.office(8, false);
        refused(3, x, "staff(2, -1, true)", () -> x.staff(2, -1, true), -1);
        refused(3, x, "staff(-1, 1, true)", () -> x.staff(-1, 1, true), -1);
        refused(3, x, "staff(0, -1, true)", () -> x.staff(0, -1, true), -4);
        refused(3, x, "staff(0, 100, true)", () -> x.staff(0, 100, true), -6);
        due(3, "late(1) without a wire", x.late(1), NONE);
        due(3, "staff(1, 0, true)", x.staff(1, 0, true), 8);
        due(3, "late(1) with a wire", x.late(1), 0);
        due(3, "staff(1, 99, false)", x.staff(1, 99, false), 0);
        due(3, "late(1) without it again", x.late(1), NONE);
        due(3, "staff(0, 3, false)", x.staff(0, 3, false), 7);
    }

    private static void way() {
        FieldPost x = new FieldPost();
        x.office(1, true);
        x.office(1, true);
        refused(4, x, "way(0, 2, 0, 0, 0)", () -> x.way(0, 2, 0, 0, 0), -1);
        refused(4, x, "way(-1, 0, 1, 0, 1)", () -> x.way(-1, 0, 1, 0, 1), -1);
        refused(4, x, "way(1, 1, 49, 0, 1)", () -> x.way(1, 1, 49, 0, 1), -1);
        refused(4, x, "way(0, 1, 0, 2001, 1)", () -> x.way(0, 1, 0, 2001, 1), -4);
        refused(4, x, "way(0, 1, 49, -1, 1)", () -> x.way(0, 1, 49, -1, 1), -4);
        refused(4, x, "way(0, 1, 49, 0, 0)", () -> x.way(0, 1, 49, 0, 0), -4);
        refused(4, x, "way(0, 1, 49, 0, 1)", () -> x.way(0, 1, 49, 0, 1), -6);
        refused(4, x, "way(0, 1, 1, 2001, 1)", () -> x.way(0, 1, 1, 2001, 1), -6);
        refused(4, x, "way(0, 1, 1, 0, 49)", () -> x.way(0, 1, 1, 0, 49), -6);
        due(4, "far(0, 1) behind the refused", x.far(0, 1), NONE);
        due(4, "way(0, 1, 48, 2000, 48)", x.way(0, 1, 48, 2000, 48), 0);
        due(4, "far(0, 1)", x.far(0, 1), 48);
        for (int i = 1; i < 24; i++) {
            due(4, "way(1, 0, 1, 0, 1)", x.way(1, 0, 1, 0, 1), i);
        }
        refused(4, x, "a way more than 24", () -> x.way(1, 0, 1, 0, 1), -6);
        due(4, "count(2)", x.count(2), 24);
        leaving();
    }

    /** FIRST, and each EVERY from then on, from both ends. */
    private static void leaving() {
        int[] leaves = {5, 5, 5, 5, 5, 5, 8, 8, 8, 11};
        for (int posted = 0; posted < leaves.length; posted++) {
            for (int end = 0; end < 2; end++) {
                FieldPost x = new FieldPost();
                x.office(9, true);
                x.office(9, true);
                x.way(0, 1, 2, 5, 3);
                x.man(0, 0);
                x.move(0, 1 - end, 0);
                if (posted > 0) {
                    x.hours(posted);
                }
                x.mail(0, end, 0, 0);
                due(4, "after(0, 0) of a mail posted on " + posted + " at " + end, x.after(0, 0), leaves[posted] + 2);
            }
        }
    }

    private static void shut() {
        FieldPost x = line(2, true);
        x.man(0, 0);
        x.move(0, 1, 0);
        x.mail(0, 0, 0, 0);
        refused(5, x, "shut(1, -1, 0)", () -> x.shut(1, -1, 0), -1);
        refused(5, x, "shut(-1, 0, 0)", () -> x.shut(-1, 0, 0), -1);
        refused(5, x, "shut(0, -1, 2001)", () -> x.shut(0, -1, 2001), -4);
        refused(5, x, "shut(0, 2002, 2001)", () -> x.shut(0, 2002, 2001), -4);
        refused(5, x, "shut(0, 0, 2001)", () -> x.shut(0, 0, 2001), -6);
        due(5, "after(0, 0) behind the refused", x.after(0, 0), 1);
        due(5, "shut(0, 0, 0)", x.shut(0, 0, 0), 1);
        due(5, "after(0, 0)", x.after(0, 0), 2);
        due(5, "shut(0, 1, 4)", x.shut(0, 1, 4), 2);
        due(5, "after(0, 0), both hours too", x.after(0, 0), 6);
        due(5, "far(0, 1), shut or not", x.far(0, 1), 1);
        x.hours(3);
        refused(5, x, "shut(0, 2, 9)", () -> x.shut(0, 2, 9), -4);
        due(5, "shut(0, 3, 2000)", x.shut(0, 3, 2000), 3);
        due(5, "after(0, 0)", x.after(0, 0), NONE);
        for (int i = 3; i < 40; i++) {
            due(5, "shut(0, 2000, 2000)", x.shut(0, 2000, 2000), i + 1);
        }
        refused(5, x, "a shut more than 40", () -> x.shut(0, 2000, 2000), -6);
        refused(5, x, "a shut more than 40, ahead of now", () -> x.shut(0, 2, 2000), -4);
        FieldPost y = line(3, true);
        due(5, "shut(0, 5, 9)", y.shut(0, 5, 9), 1);
        due(5, "shut(1, 2, 3), all are counted", y.shut(1, 2, 3), 2);
        y.man(0, 0);
        y.move(0, 2, 0);
        y.mail(0, 0, 0, 0);
        y.mail(0, 1, 0, 0);
        due(5, "after(0, 0), not shut yet", y.after(0, 0), 2);
        due(5, "after(1, 0), not shut yet", y.after(1, 0), 1);
        y.staff(0, 0, true);
        y.staff(1, 0, true);
        y.hours(2);
        y.staff(0, 9, true);
        y.staff(1, 9, true);
        due(5, "after(0, 0), another way is shut", y.after(0, 0), 5);
        due(5, "after(1, 0), its way is shut", y.after(1, 0), 5);
    }

    private static void far() {
        FieldPost x = new FieldPost();
        for (int i = 0; i < 5; i++) {
            x.office(1, false);
        }
        refused(6, x, "far(0, 5)", () -> x.far(0, 5), -1);
        refused(6, x, "far(-1, 0)", () -> x.far(-1, 0), -1);
        x.way(0, 1, 20, 0, 1);
        x.way(2, 1, 5, 0, 1);
        due(6, "far(0, 2)", x.far(0, 2), 25);
        x.way(2, 0, 4, 0, 1);
        due(6, "far(0, 2)", x.far(0, 2), 4);
        due(6, "far(0, 1)", x.far(0, 1), 9);
        due(6, "far(1, 0)", x.far(1, 0), 9);
        due(6, "far(1, 1)", x.far(1, 1), 0);
        due(6, "far(3, 0)", x.far(3, 0), NONE);
        x.way(3, 4, 7, 0, 1);
        due(6, "far(4, 0)", x.far(4, 0), NONE);
        x.way(4, 1, 48, 0, 1);
        due(6, "far(3, 0)", x.far(3, 0), 64);
        FieldPost y = new FieldPost();
        for (int i = 0; i < 12; i++) {
            y.office(1, false);
        }
        for (int i = 11; i > 0; i--) {
            y.way(i, i - 1, 48, 0, 1);
        }
        due(6, "far(0, 11)", y.far(0, 11), 528);
    }

    private static void late() {
        FieldPost x = new FieldPost();
        refused(7, x, "late(0)", () -> x.late(0), -1);
        x.office(1, false);
        x.office(1, false);
        x.office(1, true);
        due(7, "late(0), never wired", x.late(0), 0);
        due(7, "late(1)", x.late(1), NONE);
        due(7, "late(2)", x.late(2), 0);
        x.way(1, 2, 3, 0, 1);
        due(7, "late(1), a wired neighbour is no help", x.late(1), NONE);
        x.way(0, 2, 4, 0, 1);
        due(7, "late(1)", x.late(1), 7);
        due(7, "late(2)", x.late(2), 0);
        refused(7, x, "late(-1)", () -> x.late(-1), -1);
        refused(7, x, "late(3)", () -> x.late(3), -1);
    }

    private static void hours() {
        FieldPost x = new FieldPost();
        refused(8, x, "hours(0)", () -> x.hours(0), -4);
        refused(8, x, "hours(-2147483648)", () -> x.hours(Integer.MIN_VALUE), -4);
        refused(8, x, "hours(2001)", () -> x.hours(2001), -6);
        refused(8, x, "hours(2147483647)", () -> x.hours(Integer.MAX_VALUE), -6);
        due(8, "hours(1)", x.hours(1), 1);
        refused(8, x, "hours(2000)", () -> x.hours(2000), -6);
        due(8, "hours(1999)", x.hours(1999), 2000);
        refused(8, x, "hours(1)", () -> x.hours(1), -6);
        due(8, "count(0)", x.count(0), 2000);
    }

    private static void move() {
        FieldPost x = new FieldPost();
        x.office(1, true);
        x.office(1, true);
        refused(9, x, "move(16, 0, -1)", () -> x.move(16, 0, -1), -1);
        refused(9, x, "move(-1, 0, 0)", () -> x.move(-1, 0, 0), -1);
        refused(9, x, "move(0, 2, 0)", () -> x.move(0, 2, 0), -1);
        refused(9, x, "move(0, 0, -1)", () -> x.move(0, 0, -1), -4);
        refused(9, x, "move(0, 0, 2001)", () -> x.move(0, 0, 2001), -6);
        due(9, "is(0, 2000)", x.is(0, 2000), NONE);
        due(9, "move(15, 1, 0)", x.move(15, 1, 0), 1);
        due(9, "move(0, 0, 2000)", x.move(0, 0, 2000), 2);
        x.hours(10);
        refused(9, x, "move(0, 0, 9)", () -> x.move(0, 0, 9), -4);
        due(9, "move(0, 0, 10)", x.move(0, 0, 10), 3);
        for (int i = 3; i < 60; i++) {
            due(9, "move(3, 0, 500)", x.move(3, 0, 500), i + 1);
        }
        refused(9, x, "a move more than 60", () -> x.move(3, 0, 500), -6);
        due(9, "count(3)", x.count(3), 60);
    }

    private static void is() {
        FieldPost x = new FieldPost();
        for (int i = 0; i < 4; i++) {
            x.office(1, false);
        }
        refused(10, x, "is(16, -1)", () -> x.is(16, -1), -1);
        refused(10, x, "is(-1, 0)", () -> x.is(-1, 0), -1);
        refused(10, x, "is(0, -1)", () -> x.is(0, -1), -4);
        refused(10, x, "is(0, 2001)", () -> x.is(0, 2001), -6);
        x.move(0, 3, 20);
        x.move(0, 1, 5);
        x.move(1, 0, 0);
        due(10, "is(0, 4)", x.is(0, 4), NONE);
        due(10, "is(0, 5)", x.is(0, 5), 1);
        due(10, "is(0, 19)", x.is(0, 19), 1);
        due(10, "is(0, 20)", x.is(0, 20), 3);
        due(10, "is(0, 2000)", x.is(0, 2000), 3);
        x.move(0, 2, 5);
        due(10, "is(0, 5), told last", x.is(0, 5), 2);
        due(10, "is(0, 20), from later", x.is(0, 20), 3);
        due(10, "is(1, 0)", x.is(1, 0), 0);
        due(10, "is(2, 2000)", x.is(2, 2000), NONE);
    }

    private static void list() {
        FieldPost x = new FieldPost();
        x.office(1, true);
        x.office(1, false);
        x.office(1, false);
        x.way(0, 1, 6, 0, 1);
        refused(11, x, "list(3, 0, -1)", () -> x.list(3, 0, -1), -1);
        refused(11, x, "list(0, 16, 0)", () -> x.list(0, 16, 0), -1);
        refused(11, x, "list(0, 0, -1)", () -> x.list(0, 0, -1), -4);
        refused(11, x, "list(0, 0, 2001)", () -> x.list(0, 0, 2001), -6);
        x.move(5, 2, 0);
        due(11, "list(0, 5, 0)", x.list(0, 5, 0), 2);
        due(11, "list(1, 5, 0)", x.list(1, 5, 0), NONE);
        x.hours(2);
        x.move(0, 1, 2);
        x.hours(1);
        x.move(0, 2, 20);
        due(11, "list(0, 0, 2)", x.list(0, 0, 2), 1);
        due(11, "list(1, 0, 7)", x.list(1, 0, 7), NONE);
        due(11, "list(1, 0, 8)", x.list(1, 0, 8), 1);
        due(11, "list(1, 0, 19), heard but not yet", x.list(1, 0, 19), 1);
        due(11, "list(1, 0, 20)", x.list(1, 0, 20), 2);
        due(11, "list(2, 0, 2000), it never hears", x.list(2, 0, 2000), NONE);
        x.way(1, 2, 1, 0, 1);
        due(11, "list(2, 0, 8)", x.list(2, 0, 8), NONE);
        due(11, "list(2, 0, 9), by LATE as it is now", x.list(2, 0, 9), 1);
        x.staff(1, 1, true);
        due(11, "list(1, 0, 2), wired now", x.list(1, 0, 2), 1);
        due(11, "list(1, 0, 1)", x.list(1, 0, 1), NONE);
        x.move(0, 0, 20);
        due(11, "list(0, 0, 20), told last", x.list(0, 0, 20), 0);
        due(11, "list(0, 1, 20), another unit", x.list(0, 1, 20), NONE);
    }

    private static void man() {
        FieldPost x = new FieldPost();
        refused(12, x, "man(16, -1)", () -> x.man(16, -1), -1);
        refused(12, x, "man(-1, 0)", () -> x.man(-1, 0), -1);
        refused(12, x, "man(0, -1)", () -> x.man(0, -1), -4);
        refused(12, x, "man(0, 10000)", () -> x.man(0, 10000), -6);
        due(12, "man(0, 0)", x.man(0, 0), 0);
        due(12, "man(15, 9999)", x.man(15, 9999), 1);
        for (int i = 2; i < 40; i++) {
            due(12, "man(0, 0)", x.man(0, 0), i);
        }
        refused(12, x, "a man more than 40", () -> x.man(0, 0), -6);
        due(12, "count(4)", x.count(4), 40);
    }

    private static void state() {
        FieldPost x = new FieldPost();
        x.office(1, true);
        x.man(0, 0);
        refused(13, x, "state(1, 9, 0)", () -> x.state(1, 9, 0), -1);
        refused(13, x, "state(-1, 0, 0)", () -> x.state(-1, 0, 0), -1);
        refused(13, x, "state(0, 1, 1)", () -> x.state(0, 1, 1), -1);
        refused(13, x, "state(0, 1, -1)", () -> x.state(0, 1, -1), -1);
        refused(13, x, "state(0, 4, 0)", () -> x.state(0, 4, 0), -2);
        refused(13, x, "state(0, -1, 0)", () -> x.state(0, -1, 0), -2);
        due(13, "stateOf(0, 0, -1) behind the refused", x.stateOf(0, 0, -1), 0);
        due(13, "state(0, 3, -77)", x.state(0, 3, -77), 1);
        due(13, "state(0, 1, 0)", x.state(0, 1, 0), 2);
        for (int i = 2; i < 80; i++) {
            due(13, "state(0, 2, 99)", x.state(0, 2, 99), i + 1);
        }
        refused(13, x, "a state more than 80", () -> x.state(0, 2, 0), -6);
        refused(13, x, "a state more than 80, another", () -> x.state(0, 4, 0), -2);
        refused(13, x, "a state more than 80, of nobody", () -> x.state(1, 2, 0), -1);
    }

    private static void stateOf() {
        FieldPost x = new FieldPost();
        x.office(1, true);
        x.office(1, false);
        x.way(0, 1, 5, 0, 1);
        x.man(0, 0);
        x.man(0, 0);
        refused(14, x, "stateOf(2, -1, 0)", () -> x.stateOf(2, -1, 0), -1);
        refused(14, x, "stateOf(0, -1, 2)", () -> x.stateOf(0, -1, 2), -1);
        refused(14, x, "stateOf(0, 0, -2)", () -> x.stateOf(0, 0, -2), -1);
        refused(14, x, "stateOf(0, -1, -1)", () -> x.stateOf(0, -1, -1), -4);
        refused(14, x, "stateOf(0, 2001, 0)", () -> x.stateOf(0, 2001, 0), -6);
        x.hours(3);
        x.state(0, 1, 1);
        x.hours(1);
        x.state(0, 2, 0);
        x.state(0, 3, 0);
        due(14, "stateOf(0, 2, -1)", x.stateOf(0, 2, -1), 0);
        due(14, "stateOf(0, 3, -1)", x.stateOf(0, 3, -1), 1);
        due(14, "stateOf(0, 4, -1), told last", x.stateOf(0, 4, -1), 3);
        due(14, "stateOf(0, 2000, -1)", x.stateOf(0, 2000, -1), 3);
        due(14, "stateOf(0, 3, 0)", x.stateOf(0, 3, 0), 1);
        due(14, "stateOf(0, 7, 1)", x.stateOf(0, 7, 1), 0);
        due(14, "stateOf(0, 8, 1)", x.stateOf(0, 8, 1), 1);
        due(14, "stateOf(0, 9, 1)", x.stateOf(0, 9, 1), 3);
        due(14, "stateOf(1, 9, -1), another man", x.stateOf(1, 9, -1), 0);
    }

    private static void manAt() {
        FieldPost x = new FieldPost();
        x.office(1, true);
        x.office(1, false);
        x.man(4, 0);
        refused(15, x, "manAt(1)", () -> x.manAt(1), -1);
        refused(15, x, "manAt(-1)", () -> x.manAt(-1), -1);
        due(15, "manAt(0), the unit nowhere", x.manAt(0), NONE);
        x.move(4, 1, 1);
        due(15, "manAt(0), the unit not yet there", x.manAt(0), NONE);
        x.hours(1);
        due(15, "manAt(0)", x.manAt(0), 1);
        x.state(0, 1, 0);
        due(15, "manAt(0), sick", x.manAt(0), 0);
        x.state(0, 2, 0);
        due(15, "manAt(0), taken", x.manAt(0), NONE);
        x.state(0, 0, 0);
        due(15, "manAt(0), with the unit again", x.manAt(0), 1);
        x.state(0, 3, 0);
        due(15, "manAt(0), dead", x.manAt(0), NONE);
    }

    private static void mail() {
        FieldPost x = new FieldPost();
        x.office(0, true);
        x.man(0, 0);
        refused(16, x, "mail(3, 1, 0, -1)", () -> x.mail(3, 1, 0, -1), -2);
        refused(16, x, "mail(-1, 0, 0, 0)", () -> x.mail(-1, 0, 0, 0), -2);
        refused(16, x, "mail(0, 1, 0, -1)", () -> x.mail(0, 1, 0, -1), -1);
        refused(16, x, "mail(0, 0, 1, -1)", () -> x.mail(0, 0, 1, -1), -1);
        refused(16, x, "mail(0, 0, -1, 0)", () -> x.mail(0, 0, -1, 0), -1);
        refused(16, x, "mail(0, 0, 0, -1)", () -> x.mail(0, 0, 0, -1), -4);
        refused(16, x, "mail(1, 0, 0, 0)", () -> x.mail(1, 0, 0, 0), -4);
        refused(16, x, "mail(2, 0, 0, -1)", () -> x.mail(2, 0, 0, -1), -4);
        refused(16, x, "mail(0, 0, 0, 100)", () -> x.mail(0, 0, 0, 100), -6);
        refused(16, x, "mail(1, 0, 0, 1000)", () -> x.mail(1, 0, 0, 1000), -6);
        refused(16, x, "mail(2, 0, 0, 10000)", () -> x.mail(2, 0, 0, 10000), -6);
        int[][] edges = {{0, 0}, {0, 99}, {1, 1}, {1, 999}, {2, 0}, {2, 9999}};
        for (int i = 0; i < edges.length; i++) {
            due(16, "mail(" + edges[i][0] + ", 0, 0, " + edges[i][1] + ")", x.mail(edges[i][0], 0, 0, edges[i][1]), i);
        }
        x.hours(6);
        for (int i = edges.length; i < 60; i++) {
            due(16, "mail(0, 0, 0, 0)", x.mail(0, 0, 0, 0), i);
        }
        refused(16, x, "a mail more than 60", () -> x.mail(0, 0, 0, 0), -6);
        refused(16, x, "a mail more than 60, to nobody", () -> x.mail(0, 0, 1, 0), -1);
        due(16, "mailOf(59, 1)", x.mailOf(59, 1), 0);
        due(16, "mailOf(59, 2)", x.mailOf(59, 2), 0);
        due(16, "mailOf(59, 3), having come now", x.mailOf(59, 3), 6);
        due(16, "mailOf(59, 6)", x.mailOf(59, 6), 1);
        due(16, "trace(59, 0)", x.trace(59, 0), 0);
    }

    private static void feed() {
        FieldPost x = new FieldPost();
        refused(17, x, "feed(0, 0)", () -> x.feed(0, 0), -4);
        refused(17, x, "feed(-1, 0)", () -> x.feed(-1, 0), -4);
        refused(17, x, "feed(9, 0)", () -> x.feed(9, 0), -6);
        due(17, "feed(8, ..)", x.feed(8, Long.MIN_VALUE), 8);
        due(17, "feed(1, ..)", x.feed(1, -1), 9);
        for (int i = 2; i <= 7; i++) {
            due(17, "feed(8, ..)", x.feed(8, 0), 1 + 8 * i);
        }
        refused(17, x, "feed(4, ..) above 60", () -> x.feed(4, 0), -6);
        due(17, "feed(3, ..)", x.feed(3, 0), 60);
        refused(17, x, "feed(1, ..) above 60", () -> x.feed(1, 0), -6);
        due(17, "count(10)", x.count(10), 60);
        FieldPost y = new FieldPost();
        due(17, "feed(2, ..), two of more bytes", y.feed(2, 'k' | '=' << 8 | '(' << 16), 2);
        due(17, "feed(1, ..)", y.feed(1, '2' | 0x7700), 3);
        due(17, "order(0), the lowest first", y.order(0), 1);
    }

    private static void order() {
        FieldPost x = new FieldPost();
        x.feed(3, 'k' | '=' << 8 | '0' << 16);
        refused(18, x, "order(3)", () -> x.order(3), -2);
        refused(18, x, "order(-1)", () -> x.order(-1), -2);
        due(18, "order(2), the tape stayed", x.order(2), 1);
        due(18, "count(10)", x.count(10), 0);
        due(18, "count(18)", x.count(18), 1);
        due(18, "order(2) of an empty tape", x.order(2), -20);
        for (int what = 11; what <= 16; what++) {
            due(18, "count(" + what + "), a fault is no refusal", x.count(what), what == 12 ? 2 : 0);
        }
        due(18, "order of k=x", text(x, 0, "k=x"), -22);
        due(18, "count(10), a fault empties the tape", x.count(10), 0);
        due(18, "count(18), nothing is counted", x.count(18), 1);
        for (int i = 1; i < 30; i++) {
            due(18, "order of k=0", text(x, i % 3, "k=0"), i + 1);
        }
        x.feed(1, 'z');
        refused(18, x, "an order more than 30, with a fault", () -> x.order(0), -6);
        refused(18, x, "an order more than 30, another", () -> x.order(9), -2);
        due(18, "count(10), refused: the tape stays", x.count(10), 1);
    }

    /** place -1: the text is good. */
    private static void fault(String text, int place) {
        FieldPost x = new FieldPost();
        due(18, "order of " + text, text(x, 0, text), place < 0 ? 1 : -20 - place);
        due(18, "count(10) behind it", x.count(10), 0);
    }

    private static void faults() {
        String[] good = {"k=0", "0=0", "9999>0000", "k<w", "a>h", "s=u", "o=b", "c=c", "!k=0", "(k=0)", "!!!!!k=0", "(((((k=0)))))",
            "!(!(!k=0))", "k=0&w=1|a=2&h=3", "k=0|w=1&a=2|h=3", "(k=0)&(k=1)", "!k=0&!!!!!k=1", "!(k=0)|!(w=2&!(a=3))",
            "(k=0&(w=0|(a=0&(h=0|(s=0)))))", "12=1234", "!!!!!1=1&!!!!!1=1&(((((1=1)))))|!!!!!1=1"};
        for (String text : good) {
            fault(text, -1);
        }
        fault("", 0);
        fault("k", 1);
        fault("k=", 2);
        fault("kk", 1);
        fault("k1=0", 1);
        fault("1k=0", 1);
        fault("k==0", 2);
        fault("k=0=0", 3);
        fault("k=w1", 3);
        fault("k=12345", 6);
        fault("12345=k", 4);
        fault("k=0)", 3);
        fault("k=0&", 4);
        fault("k=0|", 4);
        fault("k=0&&k=0", 4);
        fault("k=0|&k=0", 4);
        fault("&k=0", 0);
        fault(")k=0", 0);
        fault("<1", 0);
        fault("()", 1);
        fault("(k=0", 4);
        fault("(k)", 2);
        fault("(k=0))", 5);
        fault("k=0(", 3);
        fault("k=0!", 3);
        fault("k!=0", 1);
        fault("k=!0", 2);
        fault("k=(0)", 2);
        fault("!", 1);
        fault("!!!!!", 5);
        fault("!!!!!!k=0", 5);
        fault("((((((k=0))))))", 5);
        fault("!(!(!(k=0)))", 5);
        fault("!(!(!!k=0))", 5);
        fault("!(!(!k=0&!!k=0))", 10);
        fault("(((((k=0&!k=1)))))", 9);
        fault("(((((k=0)&!k=1))))", -1);
        fault("(((((k=0)&!!k=1))))", 11);
        fault("(((((k=0))&!!k=1)))", -1);
        fault("(((((k=0))&!!!k=1)))", 13);
        fault("k =0", 1);
        fault("K=0", 0);
        fault("d=0", 0);
        fault("k=0\0", 3);
        fault("\0", 0);
        fault("k=\u00eb", 2);
        fault("\u00eb=0", 0);
        StringBuilder longest = new StringBuilder();
        for (int i = 0; i < 15; i++) {
            longest.append("k=0&");
        }
        fault(longest.toString(), 60);
        fault(longest.substring(0, 59), -1);
        fault(longest.substring(0, 59) + "1", -1);
        fault(longest.substring(0, 59) + ")", 59);
    }

    private static int truth(String text) {
        FieldPost x = new FieldPost();
        x.office(1, true);
        x.man(0, 0);
        x.mail(0, 0, 0, 0);
        text(x, 1, text);
        return x.holds(1, 0);
    }

    private static void holds() {
        FieldPost x = line(2, true);
        x.man(0, 0);
        x.move(0, 1, 0);
        x.mail(0, 0, 0, 0);
        refused(19, x, "holds(3, 9)", () -> x.holds(3, 9), -2);
        refused(19, x, "holds(-1, 0)", () -> x.holds(-1, 0), -2);
        refused(19, x, "holds(0, 1)", () -> x.holds(0, 1), -1);
        refused(19, x, "holds(0, -1)", () -> x.holds(0, -1), -1);
        due(19, "holds(0, 0) without an order", x.holds(0, 0), 0);
        text(x, 1, "1=1");
        due(19, "holds(0, 0), an order for another purpose", x.holds(0, 0), 0);
        due(19, "holds(1, 0)", x.holds(1, 0), 1);
        text(x, 1, "1=2");
        due(19, "holds(1, 0), the one told last", x.holds(1, 0), 0);
        x.hours(1);
        refused(19, x, "holds(0, 0) on a way", () -> x.holds(0, 0), -3);
        x.hours(1);
        refused(19, x, "holds(0, 0) of one that was given", () -> x.holds(0, 0), -3);
        refused(19, x, "holds(3, 0) of one that was given", () -> x.holds(3, 0), -2);
        FieldPost y = new FieldPost();
        y.office(1, true);
        y.man(0, 0);
        y.mail(0, 0, 0, 0);
        for (int i = 0; i < 14; i++) {
            text(y, 1, "1=1&1=1&1=1&1=1&1=1&1=1&1=1&1=1&1=1&1=1&1=1&1=1&1=1&1=1");
            due(19, "holds(1, 0) of a long text", y.holds(1, 0), 1);
            text(y, 1, "1=2");
            due(19, "holds(1, 0) of a short text behind it", y.holds(1, 0), 0);
        }
        String[] trueOnes = {"1=1", "1<2", "2>1", "0010=10", "!1=2", "!!1=1", "(1=1)", "1=1&2=2", "1=1|1=2", "1=2|1=1", "1=1|1=2&1=2",
            "1=2&1=1|1=1", "!(1=1&1=2)", "!1=2&1=1", "!1=1|1=1", "(1=2|1=1)&1=1", "!!!!!1=2", "1=2|1=2|1=1", "1=1&1=1&1=1",
            "(1=1|1=2)&!(1=2|(1=1&1=2))"};
        String[] falseOnes = {"1=2", "2<1", "1<1", "1>1", "1>2", "!1=1", "!!1=2", "1=1&1=2", "1=2&1=1", "1=2|2=1", "(1=1|1=1)&1=2",
            "!(1=2|1=1)", "!1=1&1=2", "1=2&1=1|1=2", "!(1=2)&1=2", "1=1&1=1&1=2", "1=2&1=1&1=1", "(1=1|1=2)&(1=2|(1=1&1=2))"};
        for (String text : trueOnes) {
            due(19, "whether " + text, truth(text), 1);
        }
        for (String text : falseOnes) {
            due(19, "whether " + text, truth(text), 0);
        }
    }

    /** What each letter of a text stands for. */
    private static void letters() {
        FieldPost x = new FieldPost();
        x.office(99, true);
        x.office(99, true);
        x.office(99, false);
        x.way(0, 1, 3, 2, 1);
        x.way(1, 2, 4, 1000, 1);
        x.man(7, 0);
        x.man(9, 0);
        x.hours(1);
        x.move(7, 2, 1);
        x.mail(2, 0, 0, 4321);
        x.mail(1, 1, 1, 77);
        x.hours(8);
        x.state(0, 1, 2);
        String[] facts = {"k=2", "w=4321", "a=8", "h=4", "s=1", "u=7", "o=1", "b=0", "c=2"};
        for (String fact : facts) {
            text(x, 1, fact);
            due(19, "holds(1, 0) by " + fact, x.holds(1, 0), 1);
        }
        String[] others = {"k=1", "w=77", "a=8", "h=8", "s=0", "u=9", "o=1", "b=0", "c=1"};
        for (String fact : others) {
            text(x, 1, fact);
            due(19, "holds(1, 1) by " + fact, x.holds(1, 1), 1);
        }
        FieldPost y = line(2, false);
        y.man(0, 0);
        y.state(0, 2, 0);
        y.mail(0, 1, 0, 0);
        text(y, 0, "s=2");
        due(19, "holds(0, 0), not heard there yet", y.holds(0, 0), 0);
        y.staff(1, 9, true);
        due(19, "holds(0, 0), heard there", y.holds(0, 0), 1);
        FieldPost z = new FieldPost();
        z.office(1, true);
        z.man(0, 0);
        z.keep(1);
        z.mail(0, 0, 0, 0);
        z.mail(0, 0, 0, 0);
        z.hours(2);
        text(z, 2, "b=1");
        due(19, "holds(2, 0), turned", z.holds(2, 0), 1);
        due(19, "holds(2, 1), not turned", z.holds(2, 1), 0);
    }

    private static void keep() {
        FieldPost x = new FieldPost();
        x.office(9, true);
        x.man(0, 0);
        refused(20, x, "keep(0)", () -> x.keep(0), -4);
        refused(20, x, "keep(1000)", () -> x.keep(1000), -6);
        x.mail(0, 0, 0, 0);
        due(20, "after(0, 0): 72 at first, returned an hour later", x.after(0, 0), 73);
        due(20, "keep(999)", x.keep(999), 72);
        due(20, "after(0, 0)", x.after(0, 0), NONE);
        due(20, "keep(1)", x.keep(1), 999);
        due(20, "after(0, 0)", x.after(0, 0), 2);
        x.hours(1);
        due(20, "mailOf(0, 4)", x.mailOf(0, 4), 0);
        x.hours(1);
        due(20, "mailOf(0, 4)", x.mailOf(0, 4), 1);
        due(20, "mailOf(0, 5)", x.mailOf(0, 5), 1);
        due(20, "mailOf(0, 1), that is all in this hour", x.mailOf(0, 1), 0);
        x.hours(1);
        due(20, "mailOf(0, 1)", x.mailOf(0, 1), 3);
        due(20, "mailOf(0, 3)", x.mailOf(0, 3), 2);
        FieldPost y = line(2, true);
        y.staff(1, 9, false);
        y.man(0, 0);
        y.mail(0, 1, 0, 0);
        y.keep(3);
        due(20, "after(0, 0): keep is not heard late", y.after(0, 0), 4);
    }

    private static void mailOf() {
        FieldPost x = new FieldPost();
        x.office(99, true);
        x.office(99, true);
        x.way(0, 1, 5, 1, 1);
        x.man(0, 0);
        x.move(0, 1, 0);
        x.mail(1, 0, 0, 5);
        x.mail(1, 0, 0, 6);
        refused(21, x, "mailOf(2, 9)", () -> x.mailOf(2, 9), -1);
        refused(21, x, "mailOf(-1, 0)", () -> x.mailOf(-1, 0), -1);
        refused(21, x, "mailOf(0, 8)", () -> x.mailOf(0, 8), -2);
        refused(21, x, "mailOf(0, -1)", () -> x.mailOf(0, -1), -2);
        mailIs(x, 0, 1, 0, 0, 0, 0, 0, 1, 0);
        x.hours(2);
        mailIs(x, 0, 1, 1, 1, 6, 0, 0, 1, 0);
        x.hours(4);
        mailIs(x, 0, 1, 1, 1, 6, 0, 0, 1, 0);
        x.hours(1);
        mailIs(x, 0, 1, 2, 1, 6, 0, 0, 2, 1);
        mailIs(x, 1, 1, 2, 1, 6, 0, 0, 2, 0);
        due(21, "count(9)", x.count(9), 1);
        x.mail(1, 1, 0, 1);
        text(x, 0, "k=2");
        x.mail(2, 1, 0, 9);
        x.hours(1);
        mailIs(x, 2, 1, 2, 1, 7, 0, 0, 1, 0);
        mailIs(x, 3, 2, 4, 1, 7, 0, 0, 1, 0);
        x.state(0, 3, 0);
        x.mail(0, 1, 0, 1);
        x.hours(1);
        mailIs(x, 4, 0, 3, 1, 8, 1, 3, 1, 0);
    }

    private static void mailIs(FieldPost x, int mail, int... want) {
        for (int what = 0; what < want.length; what++) {
            due(21, "mailOf(" + mail + ", " + what + ")", x.mailOf(mail, what), want[what]);
        }
    }

    private static void goal() {
        FieldPost x = line(4, true);
        x.staff(2, 99, false);
        x.man(0, 0);
        x.mail(0, 0, 0, 0);
        x.mail(0, 2, 0, 0);
        refused(22, x, "goal(2)", () -> x.goal(2), -1);
        refused(22, x, "goal(-1)", () -> x.goal(-1), -1);
        due(22, "goal(0), the unit nowhere", x.goal(0), NONE);
        x.move(0, 3, 0);
        due(22, "goal(0)", x.goal(0), 3);
        due(22, "goal(1), not heard there", x.goal(1), NONE);
        x.state(0, 1, 1);
        due(22, "goal(0), sick", x.goal(0), 1);
        x.state(0, 2, 1);
        due(22, "goal(0), taken, not turned yet", x.goal(0), 3);
        x.staff(0, 0, true);
        x.hours(2);
        due(22, "goal(1), heard there now", x.goal(1), 3);
        x.staff(0, 1, true);
        x.hours(1);
        refused(22, x, "goal(0) of one that was returned", () -> x.goal(0), -3);
        FieldPost y = line(2, true);
        y.man(0, 0);
        y.keep(1);
        y.mail(0, 1, 0, 0);
        y.hours(2);
        due(22, "goal(0), turned", y.goal(0), 1);
        FieldPost z = line(2, true);
        z.man(0, 0);
        z.move(0, 1, 0);
        z.mail(0, 0, 0, 0);
        z.hours(1);
        refused(22, z, "goal(0) on a way", () -> z.goal(0), -3);
    }

    private static void next() {
        FieldPost x = new FieldPost();
        for (int i = 0; i < 5; i++) {
            x.office(0, true);
        }
        x.way(1, 3, 9, 0, 1);
        x.way(0, 1, 2, 0, 1);
        x.way(0, 2, 1, 0, 1);
        x.way(3, 2, 2, 0, 1);
        x.way(3, 1, 1, 0, 1);
        x.man(0, 0);
        x.mail(0, 0, 0, 0);
        refused(23, x, "next(1)", () -> x.next(1), -1);
        refused(23, x, "next(-1)", () -> x.next(-1), -1);
        due(23, "next(0) without a goal", x.next(0), NONE);
        x.move(0, 0, 0);
        due(23, "next(0) at its goal", x.next(0), NONE);
        x.move(0, 4, 0);
        due(23, "next(0), no way to the goal", x.next(0), NONE);
        x.move(0, 3, 0);
        due(23, "next(0), the first of two like ones", x.next(0), 1);
        x.shut(1, 0, 2000);
        due(23, "next(0), shut or not", x.next(0), 1);
        x.way(2, 3, 1, 0, 1);
        due(23, "next(0), a nearer one", x.next(0), 2);
        x.move(0, 1, 0);
        due(23, "next(0)", x.next(0), 1);
        x.staff(0, 9, true);
        x.move(0, 2, 0);
        x.hours(1);
        refused(23, x, "next(0) on a way", () -> x.next(0), -3);
    }

    /** OFFICE 1 believes for two days that the UNIT is at 2, which knows that it is at 1. */
    private static FieldPost toAndFro() {
        FieldPost x = new FieldPost();
        x.office(9, true);
        x.office(9, false);
        x.office(9, true);
        x.way(0, 1, 48, 0, 1);
        x.way(1, 2, 1, 0, 1);
        x.man(0, 0);
        x.move(0, 2, 0);
        x.hours(50);
        x.move(0, 1, 50);
        x.mail(0, 1, 0, 0);
        return x;
    }

    private static void trace() {
        FieldPost x = toAndFro();
        refused(24, x, "trace(1, 0)", () -> x.trace(1, 0), -1);
        refused(24, x, "trace(-1, 0)", () -> x.trace(-1, 0), -1);
        due(24, "trace(0, 0)", x.trace(0, 0), 1);
        due(24, "trace(0, 1)", x.trace(0, 1), NONE);
        due(24, "trace(0, -1)", x.trace(0, -1), NONE);
        x.hours(1);
        due(24, "trace(0, 1), on the way", x.trace(0, 1), NONE);
        x.hours(1);
        due(24, "trace(0, 1)", x.trace(0, 1), 2);
        x.hours(60);
        due(24, "mailOf(0, 1)", x.mailOf(0, 1), 2);
        due(24, "mailOf(0, 3)", x.mailOf(0, 3), 98);
        due(24, "mailOf(0, 6), beyond what is kept", x.mailOf(0, 6), 49);
        due(24, "trace(0, 38)", x.trace(0, 38), 1);
        due(24, "trace(0, 39)", x.trace(0, 39), 2);
        due(24, "trace(0, 40)", x.trace(0, 40), NONE);
        due(24, "trace(0, 2147483647)", x.trace(0, Integer.MAX_VALUE), NONE);
        due(24, "trace(0, -2147483648)", x.trace(0, Integer.MIN_VALUE), NONE);
    }

    private static void fro() {
        FieldPost x = toAndFro();
        refused(25, x, "fro(1)", () -> x.fro(1), -1);
        refused(25, x, "fro(-1)", () -> x.fro(-1), -1);
        x.hours(3);
        due(25, "fro(0) of x, y, x", x.fro(0), NONE);
        x.hours(1);
        due(25, "fro(0) of x, y, x, y", x.fro(0), 0);
        FieldPost y = chase();
        due(25, "fro(0), not at the first place", y.fro(0), 2);
    }

    /** A MAIL that goes 0, 1, 2, 3, 2, 3: the MAN is always where it has just been. */
    private static FieldPost chase() {
        FieldPost x = line(4, true);
        x.man(0, 0);
        x.move(0, 3, 0);
        x.move(0, 2, 3);
        x.move(0, 3, 4);
        x.move(0, 2, 5);
        x.mail(0, 0, 0, 0);
        x.hours(6);
        int[] trace = {0, 1, 2, 3, 2, 3, NONE};
        for (int i = 0; i < trace.length; i++) {
            due(24, "trace(0, " + i + ")", x.trace(0, i), trace[i]);
        }
        return x;
    }

    private static void after() {
        FieldPost x = line(2, true);
        x.man(0, 0);
        x.mail(0, 0, 0, 0);
        refused(26, x, "after(1, 2)", () -> x.after(1, 2), -1);
        refused(26, x, "after(-1, 0)", () -> x.after(-1, 0), -1);
        refused(26, x, "after(0, 2)", () -> x.after(0, 2), -2);
        refused(26, x, "after(0, -1)", () -> x.after(0, -1), -2);
        x.keep(999);
        due(26, "after(0, 0)", x.after(0, 0), NONE);
        due(26, "after(0, 1)", x.after(0, 1), NONE);
        x.move(0, 1, 299);
        due(26, "after(0, 0), there on hour 300, not by then", x.after(0, 0), NONE);
        x.move(0, 1, 298);
        due(26, "after(0, 0), on the last of 300 hours", x.after(0, 0), 299);
        due(26, "after(0, 1)", x.after(0, 1), 2);
        due(26, "count(0), nothing changes", x.count(0), 0);
        due(26, "count(6), nothing changes", x.count(6), 0);
        mailIs(x, 0, 0, 0, 0, 0, 0, 0, 1, 0);
        due(26, "trace(0, 1), nothing changes", x.trace(0, 1), NONE);
        x.hours(400);
        due(26, "after(0, 0) of one that has ended", x.after(0, 0), 299);
        due(26, "after(0, 1) of one that has ended", x.after(0, 1), 2);
        x.hours(1599);
        x.mail(0, 1, 0, 0);
        x.staff(1, 0, true);
        x.state(0, 3, 0);
        due(26, "after(1, 0)", x.after(1, 0), NONE);
        x.staff(1, 1, true);
        due(26, "after(1, 0)", x.after(1, 0), 1999);
        due(26, "after(1, 1)", x.after(1, 1), 3);
        text(x, 0, "a=50");
        text(x, 1, "a<50");
        due(26, "after(1, 0), beyond hour 2000", x.after(1, 0), 2049);
        due(26, "after(1, 1), burnt", x.after(1, 1), 4);
        x.hours(1);
        due(26, "after(1, 0) on hour 2000", x.after(1, 0), 2049);
        refused(26, x, "after(1, 3) on hour 2000", () -> x.after(1, 3), -2);
        spoiltInAfter();
        underway();
    }

    /** What the MAILS are by now counts in AFTER, too: TURNED or not, and how many OFFICES they came to. */
    private static void underway() {
        FieldPost x = line(3, true);
        x.staff(1, 0, true);
        x.man(0, 0);
        x.move(0, 2, 0);
        x.mail(0, 0, 0, 0);
        x.mail(0, 1, 0, 0);
        text(x, 0, "c=2");
        x.hours(2);
        x.staff(1, 9, true);
        due(26, "after(0, 0)", x.after(0, 0), 2);
        due(26, "after(0, 1), the second office", x.after(0, 1), 4);
        due(26, "after(1, 0)", x.after(1, 0), 3);
        due(26, "after(1, 1), the second office", x.after(1, 1), 4);
        FieldPost y = line(2, true);
        y.man(0, 0);
        y.man(1, 0);
        y.state(1, 3, 0);
        y.move(0, 1, 0);
        y.mail(0, 0, 0, 0);
        y.mail(0, 0, 1, 0);
        text(y, 1, "h<3");
        y.hours(4);
        due(26, "after(0, 0)", y.after(0, 0), 7);
        due(26, "after(0, 1)", y.after(0, 1), 2);
        due(26, "after(1, 0), it ended", y.after(1, 0), 3);
        due(26, "after(1, 1)", y.after(1, 1), 3);
        FieldPost z = line(2, true);
        z.man(0, 0);
        z.keep(2);
        z.mail(0, 0, 0, 0);
        z.hours(1);
        z.mail(0, 0, 0, 0);
        z.hours(2);
        z.move(0, 1, 3);
        due(26, "after(0, 1), turned", z.after(0, 1), 3);
        due(26, "after(0, 0), turned", z.after(0, 0), 3);
        due(26, "after(1, 1), not turned", z.after(1, 1), 2);
        due(26, "after(1, 0), not turned", z.after(1, 0), 4);
    }

    private static void spoiltInAfter() {
        FieldPost x = line(2, true);
        x.man(0, 0);
        x.move(0, 1, 10);
        x.mail(1, 0, 0, 1);
        x.mail(2, 0, 0, 100);
        due(26, "after(0, 0)", x.after(0, 0), 11);
        due(26, "after(1, 0)", x.after(1, 0), 11);
        due(26, "count(9), nothing is spoilt by it", x.count(9), 0);
        due(26, "paid(0), nothing is paid by it", x.paid(0), 0);
        x.hours(12);
        due(26, "count(9)", x.count(9), 1);
        due(26, "paid(0)", x.paid(0), 100);
    }

    private static void paid() {
        FieldPost x = new FieldPost();
        x.office(9, true);
        x.man(0, 0);
        x.man(0, 1);
        x.man(1, 1);
        refused(27, x, "paid(3)", () -> x.paid(3), -1);
        refused(27, x, "paid(-1)", () -> x.paid(-1), -1);
        x.move(0, 0, 0);
        x.mail(2, 0, 0, 9999);
        x.mail(2, 0, 0, 2);
        x.mail(2, 0, 1, 40);
        x.mail(0, 0, 0, 50);
        x.mail(1, 0, 0, 60);
        x.mail(2, 0, 2, 70);
        due(27, "paid(0), not given yet", x.paid(0), 0);
        x.hours(1);
        due(27, "paid(0)", x.paid(0), 10001);
        due(27, "paid(1)", x.paid(1), 40);
        due(27, "paid(2)", x.paid(2), 0);
        x.state(1, 2, 0);
        x.mail(2, 0, 1, 500);
        x.hours(1);
        due(27, "paid(1), returned money is not paid", x.paid(1), 40);
        due(27, "count(7)", x.count(7), 1);
    }

    private static int digits(int a, int b, int c, int d) {
        return ((a * 11 + b) * 11 + c) * 11 + d;
    }

    private static FieldPost fourMen() {
        FieldPost x = new FieldPost();
        x.man(0, 7);
        x.man(15, 1207);
        x.man(15, 1297);
        x.man(3, 9999);
        return x;
    }

    private static void cover() {
        FieldPost x = fourMen();
        refused(28, x, "cover(-2, -1)", () -> x.cover(-2, -1), -1);
        refused(28, x, "cover(16, 0)", () -> x.cover(16, 0), -1);
        refused(28, x, "cover(-1, -1)", () -> x.cover(-1, -1), -4);
        refused(28, x, "cover(-1, 14641)", () -> x.cover(-1, 14641), -6);
        due(28, "cover, nothing to be read", x.cover(-1, 14640), 4);
        due(28, "cover, the unit alone", x.cover(15, 14640), 2);
        due(28, "cover, leading digits of 0", x.cover(-1, digits(0, 0, 0, 7)), 1);
        due(28, "cover, the last digit", x.cover(-1, digits(10, 10, 10, 7)), 3);
        due(28, "cover, the first digit highest", x.cover(-1, digits(1, 10, 10, 10)), 2);
        due(28, "cover, the third digit", x.cover(-1, digits(10, 10, 9, 10)), 2);
        due(28, "cover, all of them", x.cover(15, digits(1, 2, 0, 7)), 1);
        due(28, "cover, another unit", x.cover(3, digits(1, 2, 0, 7)), 0);
        due(28, "cover(0, 0)", x.cover(0, 0), 0);
        due(28, "cover of no men", new FieldPost().cover(-1, 14640), 0);
    }

    private static void sure() {
        FieldPost x = fourMen();
        refused(29, x, "sure(-2, -1)", () -> x.sure(-2, -1), -1);
        refused(29, x, "sure(16, 0)", () -> x.sure(16, 0), -1);
        refused(29, x, "sure(0, -1)", () -> x.sure(0, -1), -4);
        refused(29, x, "sure(0, 14641)", () -> x.sure(0, 14641), -6);
        due(29, "sure of two", x.sure(15, 14640), NONE);
        due(29, "sure of none", x.sure(1, 14640), NONE);
        due(29, "sure by the unit", x.sure(0, 14640), 0);
        due(29, "sure by a digit", x.sure(15, digits(10, 10, 9, 10)), 2);
        due(29, "sure by all digits", x.sure(-1, digits(9, 9, 9, 9)), 3);
    }

    private static void sack() {
        FieldPost x = new FieldPost();
        refused(30, x, "sack(0, 1000, 0)", () -> x.sack(0, 1000, 0), -4);
        refused(30, x, "sack(100, 0, 0)", () -> x.sack(100, 0, 0), -4);
        refused(30, x, "sack(1, 1000, -1)", () -> x.sack(1, 1000, -1), -4);
        refused(30, x, "sack(100, 1, 0)", () -> x.sack(100, 1, 0), -6);
        refused(30, x, "sack(1, 1000, 0)", () -> x.sack(1, 1000, 0), -6);
        refused(30, x, "sack(1, 1, 10000)", () -> x.sack(1, 1, 10000), -6);
        due(30, "sack(99, 999, 9999)", x.sack(99, 999, 9999), 0);
        for (int i = 1; i < 7; i++) {
            due(30, "sack(1, 1, 0)", x.sack(1, 1, 0), i);
        }
        refused(30, x, "a sack more than 7", () -> x.sack(1, 1, 0), -6);
        refused(30, x, "a sack more than 7, of no time", () -> x.sack(0, 1, 0), -4);
    }

    private static void bestIs(FieldPost x, int set, int letters, int hours) {
        due(31, "best(0)", x.best(0), set);
        due(31, "best(1)", x.best(1), letters);
        due(31, "best(2)", x.best(2), hours);
    }

    private static void best() {
        FieldPost x = new FieldPost();
        refused(31, x, "best(3)", () -> x.best(3), -2);
        refused(31, x, "best(-1)", () -> x.best(-1), -2);
        bestIs(x, 0, 0, 0);
        x.sack(5, 4, 100);
        bestIs(x, 0, 0, 0);
        x.sack(4, 4, 7);
        bestIs(x, 2, 7, 4);
        x.sack(2, 4, 7);
        bestIs(x, 4, 7, 2);
        x.sack(2, 4, 0);
        bestIs(x, 4, 7, 2);
        x.sack(2, 3, 7);
        bestIs(x, 20, 14, 4);
        x.sack(2, 4, 7);
        bestIs(x, 20, 14, 4);
        x.sack(1, 5, 1);
        bestIs(x, 84, 15, 5);
        FieldPost z = new FieldPost();
        z.sack(1, 1, 1);
        bestIs(z, 1, 1, 1);
        z.sack(5, 9, 6);
        z.sack(4, 8, 3);
        z.sack(3, 7, 3);
        bestIs(z, 11, 10, 9);
        FieldPost y = new FieldPost();
        y.sack(3, 10, 5);
        y.sack(3, 10, 5);
        y.sack(3, 3, 5);
        y.sack(3, 6, 5);
        bestIs(y, 7, 15, 9);
    }

    private static void put() {
        FieldPost x = new FieldPost();
        refused(32, x, "put(-129)", () -> x.put(-129), -4);
        refused(32, x, "put(128)", () -> x.put(128), -6);
        due(32, "put(-128)", x.put(-128), 1);
        for (int i = 1; i < 12; i++) {
            due(32, "put(127)", x.put(127), i + 1);
        }
        refused(32, x, "a byte more than 12", () -> x.put(0), -6);
        refused(32, x, "a byte more than 12, below", () -> x.put(-129), -4);
        due(32, "count(17)", x.count(17), 12);
        due(32, "judge(0)", x.judge(0), 0);
    }

    private static void row(FieldPost x, int place, int less, int... row) {
        StringBuilder told = new StringBuilder("the row");
        for (int i = 0; i < row.length; i++) {
            due(32, "put(" + row[i] + ")", x.put(row[i]), i + 1);
            told.append(' ').append(row[i]);
        }
        due(33, "judge(0) of " + told, x.judge(0), place);
        due(33, "judge(0) of " + told + ", it stays", x.judge(0), place);
        due(33, "count(17)", x.count(17), row.length);
        due(33, "judge(1) of " + told, x.judge(1), less);
        due(33, "count(17), the row has none then", x.count(17), 0);
    }

    private static void judge() {
        FieldPost x = new FieldPost();
        row(x, NONE, 0);
        row(x, 0, 0, 0);
        x.sack(5, 5, 10);
        x.sack(3, 8, 20);
        x.sack(2, 10, 30);
        x.put(0);
        refused(33, x, "judge(2)", () -> x.judge(2), -2);
        refused(33, x, "judge(-1)", () -> x.judge(-1), -2);
        due(33, "judge(1), it stayed", x.judge(1), 50);
        row(x, NONE, 60);
        row(x, NONE, 0, 0, 1, 2);
        row(x, 2, 10, 2, 1, 0);
        row(x, 1, 40, 1, 0, 2);
        row(x, NONE, 10, 2, 1);
        row(x, 1, 50, 0, 0);
        row(x, 2, 30, 0, 1, 1, 2);
        row(x, 0, 60, -1);
        row(x, 0, 60, 3, 0);
        row(x, 1, 30, 2, -128);
        FieldPost y = new FieldPost();
        y.sack(1, 999, 1);
        y.sack(1, 999, 2);
        y.sack(1, 999, 4);
        row(y, 2, 4, 0, 1, 0, 2);
        row(y, 2, 1, 2, 1, 2);
        row(y, 1, 5, 1, 1);
        row(y, NONE, 0, 2, 0, 1);
        row(x, 3, 0, 0, 1, 2, 127);
        row(x, 3, 0, 0, 1, 2, 2, 2, 2, 2, 2, 2, 2, 2, 2);
    }

    private static void waiting() {
        FieldPost x = line(2, true);
        x.staff(0, 1, true);
        x.man(0, 0);
        x.move(0, 1, 0);
        refused(34, x, "waiting(2)", () -> x.waiting(2), -1);
        refused(34, x, "waiting(-1)", () -> x.waiting(-1), -1);
        x.mail(0, 0, 0, 0);
        x.mail(0, 0, 0, 0);
        x.mail(0, 0, 0, 0);
        x.staff(1, 0, true);
        due(34, "waiting(0)", x.waiting(0), 3);
        due(34, "waiting(1)", x.waiting(1), 0);
        x.hours(1);
        due(34, "waiting(0)", x.waiting(0), 2);
        due(34, "waiting(1), one on the way", x.waiting(1), 0);
        x.hours(1);
        due(34, "waiting(1)", x.waiting(1), 1);
        x.staff(1, 9, true);
        x.hours(1);
        due(34, "waiting(1), two were given", x.waiting(1), 0);
        due(34, "count(6)", x.count(6), 2);
    }

    private static void count() {
        FieldPost x = line(3, true);
        x.man(0, 0);
        x.move(0, 1, 0);
        x.move(0, 1, 1);
        x.mail(0, 1, 0, 0);
        x.mail(0, 0, 0, 0);
        text(x, 0, "o=0");
        x.feed(2, 0);
        x.put(1);
        x.put(1);
        x.put(1);
        x.hours(4);
        x.state(0, 3, 0);
        x.mail(0, 1, 0, 0);
        x.hours(1);
        x.office(100, true);
        x.office(-1, true);
        x.office(-1, true);
        x.goal(0);
        x.best(7);
        x.best(7);
        x.late(9);
        int[] want = {5, 3, 2, 2, 1, 3, 1, 1, 1, 0, 2, 1, 2, 1, 2, 0, 1, 3, 1};
        for (int what = 0; what < want.length; what++) {
            due(35, "count(" + what + ")", x.count(what), want[what]);
        }
        int[] others = {-1, 19, Integer.MIN_VALUE, Integer.MAX_VALUE};
        for (int what : others) {
            due(35, "count(" + what + ")", x.count(what), NONE);
        }
        due(35, "count(12), another what is no refusal", x.count(12), 2);
    }

    /** BURN is asked ahead of HOLD, HOLD of BACK, BACK of the STATE. */
    private static void hourOrder() {
        int[] ends = {4, 0, 3, 3};
        int[] words = {0, 0, 4, 2};
        for (int without = 0; without < 4; without++) {
            FieldPost x = new FieldPost();
            x.office(1, true);
            x.man(0, 0);
            x.move(0, 0, 0);
            x.state(0, 2, 0);
            x.mail(0, 0, 0, 0);
            for (int purpose = without; purpose < 3; purpose++) {
                text(x, purpose, "1=1");
            }
            x.hours(1);
            due(8, "mailOf(0, 1) without the first " + without + " purposes", x.mailOf(0, 1), ends[without]);
            due(8, "mailOf(0, 5)", x.mailOf(0, 5), words[without]);
        }
    }

    /** Who came first is ahead, then by numbers, and a held one takes a hand all the same. */
    private static void queueOrder() {
        FieldPost x = new FieldPost();
        x.office(1, true);
        x.office(0, true);
        x.way(0, 1, 1, 0, 1);
        x.way(0, 1, 1, 0, 1);
        x.man(0, 0);
        x.man(1, 0);
        x.move(0, 1, 0);
        x.move(1, 0, 0);
        x.mail(0, 1, 1, 0);
        x.mail(0, 0, 1, 0);
        x.hours(1);
        due(8, "mailOf(1, 1)", x.mailOf(1, 1), 2);
        x.mail(0, 0, 0, 0);
        x.mail(0, 0, 0, 0);
        x.staff(1, 1, true);
        x.hours(1);
        due(8, "mailOf(0, 1), it goes to office 0", x.mailOf(0, 1), 1);
        due(8, "mailOf(2, 1), ahead by its number", x.mailOf(2, 1), 1);
        due(8, "mailOf(3, 1)", x.mailOf(3, 1), 0);
        x.hours(1);
        due(8, "mailOf(3, 1), it came first", x.mailOf(3, 1), 1);
        due(8, "mailOf(0, 1), it waits", x.mailOf(0, 1), 0);
        x.hours(1);
        due(8, "mailOf(0, 1)", x.mailOf(0, 1), 2);
        FieldPost y = new FieldPost();
        y.office(1, true);
        y.office(1, true);
        y.way(0, 1, 1, 0, 1);
        y.man(0, 0);
        y.move(0, 0, 0);
        text(y, 1, "w=7");
        y.mail(0, 0, 0, 7);
        y.mail(0, 0, 0, 0);
        y.hours(9);
        due(8, "mailOf(1, 1), the held one takes the hand", y.mailOf(1, 1), 0);
        y.staff(0, 2, true);
        y.hours(1);
        due(8, "mailOf(1, 1), a second hand", y.mailOf(1, 1), 2);
        sameHour();
    }

    /** Of one that comes on the HOUR and one posted on it the lesser number is ahead. */
    private static void sameHour() {
        FieldPost x = new FieldPost();
        x.office(1, true);
        x.office(1, true);
        x.way(0, 1, 2, 0, 1);
        x.man(0, 0);
        x.move(0, 1, 0);
        x.mail(0, 0, 0, 0);
        x.hours(2);
        x.mail(0, 1, 0, 0);
        x.hours(1);
        due(8, "mailOf(0, 1)", x.mailOf(0, 1), 2);
        due(8, "mailOf(1, 1)", x.mailOf(1, 1), 0);
    }

    /** An ORDER is in force where and when it is heard, the one before it until then. */
    private static void ordersLate() {
        FieldPost x = new FieldPost();
        x.office(0, true);
        x.office(0, false);
        x.way(0, 1, 4, 0, 1);
        x.man(0, 0);
        x.mail(0, 1, 0, 0);
        text(x, 2, "1=1");
        x.hours(2);
        text(x, 2, "1=2");
        int[] want = {0, 0, 1, 1, 0, 0};
        for (int i = 0; i < want.length; i++) {
            due(19, "holds(2, 0) on hour " + (i + 2), x.holds(2, 0), want[i]);
            x.hours(1);
        }
    }

    /** TURNED by a STATE as HEARD; a TURNED one has its WORD for good and goes home. */
    private static void turning() {
        FieldPost x = new FieldPost();
        x.office(9, true);
        x.office(9, true);
        x.way(0, 1, 3, 0, 1);
        x.man(0, 0);
        x.move(0, 1, 0);
        x.mail(0, 0, 0, 0);
        x.hours(1);
        x.state(0, 3, 0);
        x.hours(3);
        due(8, "mailOf(0, 4)", x.mailOf(0, 4), 1);
        due(8, "mailOf(0, 5)", x.mailOf(0, 5), 3);
        due(8, "mailOf(0, 2), on its way home", x.mailOf(0, 2), 0);
        due(8, "mailOf(0, 3)", x.mailOf(0, 3), 6);
        x.state(0, 0, 0);
        text(x, 2, "1=1");
        x.hours(3);
        due(8, "mailOf(0, 1)", x.mailOf(0, 1), 3);
        due(8, "mailOf(0, 5), as it was", x.mailOf(0, 5), 3);
        due(8, "mailOf(0, 3)", x.mailOf(0, 3), 6);
        FieldPost y = line(2, true);
        y.man(0, 0);
        y.man(0, 0);
        y.move(0, 1, 0);
        y.state(0, 1, 0);
        y.mail(0, 0, 0, 0);
        y.mail(0, 1, 0, 0);
        y.mail(0, 0, 1, 0);
        due(22, "goal(0), sick where it is", y.goal(0), 0);
        due(22, "goal(1), sick elsewhere", y.goal(1), 0);
        due(22, "goal(2), another man", y.goal(2), 1);
        y.hours(1);
        due(8, "mailOf(0, 1)", y.mailOf(0, 1), 2);
        y.hours(1);
        due(8, "mailOf(1, 1)", y.mailOf(1, 1), 2);
        due(8, "mailOf(1, 3)", y.mailOf(1, 3), 1);
        atGoalAndNeither();
    }

    /** The UNIT has gone on, but the OFFICE has not heard of it: the MAIL is kept, then TURNED. */
    private static void atGoalAndNeither() {
        FieldPost x = new FieldPost();
        x.office(9, true);
        x.office(9, false);
        x.way(0, 1, 20, 0, 1);
        x.man(0, 0);
        x.keep(5);
        x.move(0, 1, 0);
        x.move(0, 0, 21);
        x.hours(20);
        x.state(0, 2, 0);
        x.mail(0, 1, 0, 0);
        due(22, "goal(0)", x.goal(0), 1);
        due(26, "after(0, 0), turned at office 0 on 41", x.after(0, 0), 61);
        FieldPost y = new FieldPost();
        y.office(9, true);
        y.office(9, false);
        y.way(0, 1, 40, 0, 1);
        y.man(0, 0);
        y.keep(5);
        y.move(0, 1, 0);
        y.hours(40);
        y.state(0, 2, 0);
        y.mail(0, 1, 0, 0);
        y.hours(5);
        due(8, "mailOf(0, 4)", y.mailOf(0, 4), 0);
        y.hours(1);
        due(8, "mailOf(0, 4)", y.mailOf(0, 4), 1);
        due(8, "mailOf(0, 5)", y.mailOf(0, 5), 1);
        y.hours(1);
        due(8, "mailOf(0, 1)", y.mailOf(0, 1), 3);
        FieldPost z = new FieldPost();
        z.office(9, true);
        z.office(9, true);
        z.man(0, 0);
        z.move(0, 1, 0);
        z.keep(1);
        z.mail(0, 0, 0, 0);
        z.hours(90);
        due(8, "mailOf(0, 4), a goal without a way there is waited for", z.mailOf(0, 4), 0);
    }

    /** Only the first of like WAYS counts: if it does not leave, the MAIL stays. */
    private static void wayChoice() {
        FieldPost x = new FieldPost();
        x.office(9, true);
        x.office(9, true);
        x.way(0, 1, 4, 10, 1);
        x.way(1, 0, 4, 0, 1);
        x.way(1, 0, 5, 0, 1);
        x.man(0, 0);
        x.move(0, 1, 0);
        x.mail(0, 0, 0, 0);
        due(23, "next(0)", x.next(0), 0);
        due(26, "after(0, 0)", x.after(0, 0), 14);
        x.way(0, 1, 3, 30, 1);
        due(23, "next(0), the nearest though it leaves late", x.next(0), 3);
        due(26, "after(0, 0)", x.after(0, 0), 33);
    }
}
