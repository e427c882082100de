/** Promises 10 to 15, 32 and 33: acts, what is undone, images. */
final class ActPromises {
    private static final int NONE = StampDuchy.NONE;
    /** In hour 0 person 0 sleeps, 1 has no hand free, 2 has no money, 3 could do all. */
    private static final String SQUARE = "duchy 2 5;kind 10 1;kind 0 0;person 50 0 1 3;person 50 9 1 1;person 9 9 1 3;"
        + "person 10 9 1 2;work 0;work 0;work 0;work 1;work 0;work 0;held 0 0;held 1 1";

    private final Edges e;

    ActPromises(Edges e) {
        this.e = e;
    }

    void all() {
        hours();
        hourRefused();
        begins();
        beginRefused();
        sneaks();
        sneakRefused();
        hands();
        handRefused();
        drops();
        dropRefused();
        undos();
        undoOfAStop();
        undoRefused();
        images();
        imageRefused();
        backs();
        backRefused();
    }

    private void hours() {
        e.promise(10, "An HOUR: how many WORKS STOPPED;");
        StampDuchy d = Due.told("duchy 0 0;kind 0 0;person 0 1 1 3;person 0 1 1 3" + Due.times(";work 0", 6)
            + ";held 0 0;held 1 0;held 2 0;held 3 1;held 4 1;held 5 1");
        e.is("none", d.hour(), 0);
        e.is("all six", d.hour(), 6);
        e.is("none is left", d.hour(), 0);
        e.is("hour", d.count(7), 3);
        e.is("without people and works", Due.told("duchy 0 0").hour(), 0);
        // All of a full duchy go on through a day and another.
        d = Due.told(Due.FULL);
        for (int i = 0; i < 48; i++) {
            e.is("full, in " + i, d.hour(), 0);
        }
        e.is("all go", d.count(8), 63);
    }

    private void hourRefused() {
        e.promise(10, "NONE, and nothing happens, without a DUCHY, or at HOUR 999.");
        StampDuchy none = new StampDuchy();
        e.refused(none, NONE, none::hour, none::hour);
        StampDuchy d = Due.told("duchy 0 0;kind 0 1;person 0 0 0 1;work 0;held 0 0");
        Due.pass(d, 998);
        e.is("at 998", d.hour(), 0);
        e.refused(d, NONE, d::hour, d::hour);
        e.is("hour", d.count(7), 999);
        e.is("purse", d.person(0, 0), 999);
        e.is("other acts go on", d.drop(0), 0);
    }

    private void begins() {
        e.promise(11, "BEGIN: the PURSE then;");
        StampDuchy d = Due.told(SQUARE);
        e.is("just the price", d.begin(5, 3), 0);
        e.is("with nothing for nothing", d.begin(3, 3), 0);
        e.is("what costs nothing", d.undo(), 1);
        e.is("by another", d.begin(3, 2), 9);
        e.is("in the chest", d.count(1), 15);
        e.is("acts", d.count(12), 2);
    }

    private void beginRefused() {
        e.promise(11, "NONE, and nothing happens, without these.");
        StampDuchy d = Due.told(SQUARE);
        e.refused(d, NONE, () -> d.begin(2, 0), () -> d.begin(2, 1), () -> d.begin(2, 2), () -> d.begin(0, 3),
            () -> d.begin(1, 3), () -> d.begin(6, 3), () -> d.begin(-1, 3), () -> d.begin(2, 4), () -> d.begin(2, -1));
        String before = Edges.sight(d);
        for (int n : Edges.far()) {
            e.is("far work", d.begin(n, 3), NONE);
            e.is("far person", d.begin(2, n), NONE);
        }
        e.unchanged(d, before);
        e.is("without a duchy", new StampDuchy().begin(0, 0), NONE);
    }

    private void sneaks() {
        e.promise(12, "SNEAK: WORKS that are SNEAKED then, as bits;");
        StampDuchy d = Due.told(SQUARE);
        e.is("the last", d.sneak(5, 2), 32);
        e.is("one more", d.sneak(2, 3), 36);
        e.is("what costs nothing", d.sneak(3, 2), 44);
        e.is("purse", d.person(2, 0), 9);
        e.is("chest", d.count(1), 5);
        e.is("acts", d.count(12), 3);
    }

    private void sneakRefused() {
        e.promise(12, "NONE, and nothing happens, without these.");
        StampDuchy d = Due.told(SQUARE);
        e.refused(d, NONE, () -> d.sneak(2, 0), () -> d.sneak(2, 1), () -> d.sneak(0, 3), () -> d.sneak(1, 3),
            () -> d.sneak(6, 3), () -> d.sneak(-1, 3), () -> d.sneak(2, 4), () -> d.sneak(2, -1));
        String before = Edges.sight(d);
        for (int n : Edges.far()) {
            e.is("far work", d.sneak(n, 3), NONE);
            e.is("far person", d.sneak(2, n), NONE);
        }
        e.unchanged(d, before);
        e.is("without a duchy", new StampDuchy().sneak(0, 0), NONE);
    }

    private void hands() {
        e.promise(13, "HAND: who held it;");
        StampDuchy d = Due.told(SQUARE);
        e.is("of 1", d.hand(1, 2), 1);
        e.is("of 2", d.hand(1, 3), 2);
        e.is("who holds it", d.work(1, 1), 3);
        d.sneak(5, 3);
        e.is("a sneaked one", d.hand(5, 1), 3);
        e.is("stays so", d.count(9), 32);
        e.is("for nothing", d.person(1, 0), 50);
        e.is("acts", d.count(12), 4);
    }

    private void handRefused() {
        e.promise(13, "NONE, and nothing happens, without these.");
        StampDuchy d = Due.told(SQUARE);
        d.sneak(5, 3);
        e.refused(d, NONE, () -> d.hand(2, 3), () -> d.hand(0, 3), () -> d.hand(1, 0), () -> d.hand(5, 1),
            () -> d.hand(1, 1), () -> d.hand(5, 3), () -> d.hand(6, 3), () -> d.hand(-1, 3), () -> d.hand(1, 4),
            () -> d.hand(1, -1));
        String before = Edges.sight(d);
        for (int n : Edges.far()) {
            e.is("far work", d.hand(n, 3), NONE);
            e.is("far person", d.hand(1, n), NONE);
        }
        e.unchanged(d, before);
        e.is("without a duchy", new StampDuchy().hand(0, 0), NONE);
    }

    private void drops() {
        e.promise(14, "DROP: who held it;");
        StampDuchy d = Due.told(SQUARE);
        d.sneak(5, 3);
        e.is("of 3", d.drop(5), 3);
        e.is("of 0, who sleeps", d.drop(0), 0);
        e.is("the last that goes", d.drop(1), 1);
        e.is("none goes", d.count(8), 0);
        e.is("none is sneaked", d.count(9), 0);
        e.is("acts", d.count(12), 4);
    }

    private void dropRefused() {
        e.promise(14, "NONE, and nothing happens, without these.");
        StampDuchy d = Due.told(SQUARE);
        e.refused(d, NONE, () -> d.drop(2), () -> d.drop(5), () -> d.drop(6), () -> d.drop(-1));
        String before = Edges.sight(d);
        for (int n : Edges.far()) {
            e.is("far", d.drop(n), NONE);
        }
        e.unchanged(d, before);
        e.is("without a duchy", new StampDuchy().drop(0), NONE);
    }

    private void undos() {
        e.promise(15, "The last ACT is UNDONE: how many more can be;");
        StampDuchy d = Due.told(SQUARE);
        String[] before = new String[5];
        before[0] = Edges.sight(d);
        d.begin(5, 3);
        before[1] = Edges.sight(d);
        d.sneak(4, 3);
        before[2] = Edges.sight(d);
        d.hand(1, 2);
        before[3] = Edges.sight(d);
        d.drop(0);
        before[4] = Edges.sight(d);
        d.hour();
        for (int left = 4; left >= 0; left--) {
            e.is("undone", d.undo(), left);
            e.unchanged(d, before[left]);
        }
    }

    private void undoOfAStop() {
        e.promise(15, "The last ACT is UNDONE");
        StampDuchy d = Due.told("duchy 2 0;kind 0 3;person 9 1 1 2;work 0;work 0;held 0 0");
        d.sneak(1, 0);
        String first = Edges.sight(d);
        e.is("an hour with a clerk", d.hour(), 0);
        String second = Edges.sight(d);
        e.is("an hour in which both stop", d.hour(), 2);
        e.is("undone", d.undo(), 2);
        e.unchanged(d, second);
        e.is("undone too", d.undo(), 1);
        e.unchanged(d, first);
    }

    private void undoRefused() {
        e.promise(15, "-2, and nothing happens: none can.");
        StampDuchy d = new StampDuchy();
        e.refused(d, -2, d::undo);
        Due.duchy(d, SQUARE);
        e.refused(d, -2, d::undo, d::undo);
        d.hour();
        d.undo();
        e.refused(d, -2, d::undo);
        // Behind twenty of more that were done.
        StampDuchy more = Due.told("duchy 0 0");
        Due.pass(more, 45);
        for (int left = 19; left >= 0; left--) {
            e.is("undone", more.undo(), left);
        }
        e.refused(more, -2, more::undo);
        e.is("hour", more.count(7), 25);
        // What was undone is not done again.
        Due.pass(more, 2);
        e.is("two of them", more.undo(), 1);
        e.is("and the other", more.undo(), 0);
        e.refused(more, -2, more::undo);
    }

    private void images() {
        e.promise(32, "An IMAGE is made: the HOUR;");
        StampDuchy d = new StampDuchy();
        e.is("of nothing", d.image(0), 0);
        Due.duchy(d, SQUARE);
        Due.pass(d, 7);
        e.is("the first", d.image(0), 7);
        e.is("the last", d.image(3), 7);
        d.hour();
        e.is("in place of another", d.image(0), 8);
        d.hour();
        e.is("which is the new one", d.back(0), 8);
        e.is("and the other is as it was", d.back(3), 7);
    }

    private void imageRefused() {
        e.promise(32, "NONE without it.");
        StampDuchy d = Due.told(SQUARE);
        e.refused(d, NONE, () -> d.image(4), () -> d.image(-1));
        for (int n : Edges.far()) {
            e.is("far", d.image(n), NONE);
        }
        for (int k = 0; k < 4; k++) {
            e.is("none was made", d.back(k), NONE);
        }
    }

    private void backs() {
        e.promise(33, "All is as in an IMAGE: the HOUR;");
        StampDuchy d = Due.ruled("take 9-person", SQUARE);
        d.seed(5);
        d.log(0, 0, 1);
        d.sneak(5, 3);
        Due.pass(d, 2);
        String before = Edges.sight(d);
        d.image(3);
        Due.pass(d, 21);
        Due.duchy(d, Due.FULL);
        d.force(NONE);
        d.seed(6);
        e.is("back", d.back(3), 2);
        e.unchanged(d, before);
        e.is("and again", d.back(3), 2);
        e.is("undone in it", d.undo(), 2);
        e.is("hour 1", d.count(7), 1);
        e.is("all of it", d.undo(), 1);
        e.is("sneaked", d.count(9), 32);
        e.is("all", d.undo(), 0);
        e.is("no more", d.undo(), -2);
        e.is("the image has them", d.back(3), 2);
        e.unchanged(d, before);
    }

    private void backRefused() {
        e.promise(33, "NONE, and nothing happens, if it was never made, or without it.");
        StampDuchy d = Due.told(SQUARE);
        Due.pass(d, 3);
        e.refused(d, NONE, () -> d.back(0), () -> d.back(3), () -> d.back(4), () -> d.back(-1));
        d.image(1);
        d.hour();
        e.refused(d, NONE, () -> d.back(0), () -> d.back(2), () -> d.back(3), () -> d.back(4), () -> d.back(-1));
        for (int n : Edges.far()) {
            e.is("far", d.back(n), NONE);
        }
        e.is("the one that was made", d.back(1), 3);
    }
}
