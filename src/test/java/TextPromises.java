/** Promises 1 to 9, 29 and 31: a new object, the tape, the texts, and how things stand. */
final class TextPromises {
    private static final int NONE = StampDuchy.NONE;

    private final Edges e;

    TextPromises(Edges e) {
        this.e = e;
    }

    void all() {
        newObject();
        objectOf512Calls();
        feedBehind();
        feedTooMuch();
        endAlone();
        endRefused();
        duchyInPlace();
        duchyFault();
        ruleNumbers();
        ruleFault();
        ruleOfSeven();
        forceWhichWas();
        forceRefused();
        kinds();
        kindsRefused();
        people();
        peopleRefused();
        works();
        worksRefused();
        seeds();
        seedRefused();
        counts();
        countsRefused();
    }

    private void newObject() {
        e.promise(1, "No DUCHY, no RULES, none IN FORCE.");
        StampDuchy d = new StampDuchy();
        for (int what = 0; what <= 14; what++) {
            e.is("count " + what, d.count(what), what == 6 ? NONE : 0);
        }
        e.is("no hour", d.hour(), NONE);
        e.is("no chest ahead", d.ahead(0, 0, 2), -2);
        e.is("no most", d.most(1, 0), NONE);
        e.is("no chains", d.chains(0), -3);
        e.is("no help", d.help(1, 1), -2);
        e.is("no watch", d.watch(0), NONE);
        e.is("no ruled", d.ruled(0), -3);
        e.is("no look", d.look(0, 0), NONE);
        e.is("no nights", d.nights(1, 1, 0, 0), NONE);
        e.is("no rule", d.force(0), -2);
        e.is("none in force", d.force(NONE), NONE);
        e.is("no image", d.back(0), NONE);
        StampDuchy other = Due.ruled("take 1", Due.FULL);
        other.seed(5);
        other.image(0);
        d = new StampDuchy();
        e.is("nothing of another object", d.count(4) + d.count(5) + d.count(13), 0);
        e.is("nor its rule", d.count(6), NONE);
        e.is("nor its image", d.back(0), NONE);
    }

    private void objectOf512Calls() {
        e.page("What it is", "An object is used for at most 512 calls after it has been made");
        StampDuchy d = Due.told("duchy 0 0;kind 0 1;person 0 0 0 1;work 0;held 0 0");
        int calls = 5;
        while (calls < 511) {
            d.hour();
            calls++;
        }
        e.is("the 512th", d.person(0, 0), 506);
    }

    private void feedBehind() {
        e.promise(2, "Twenty bytes come behind the TAPE, of each number the highest first: how many it has;");
        StampDuchy d = new StampDuchy();
        e.is("first", d.feed(0x64756368, 0x79203720, 0x383b2020, 0x20202020, 0x20202020), 20);
        e.is("second", d.feed(0x6b696e64, 0x20392034, 0x20202020, 0x20202020, 0x20202020), 40);
        e.is("read", d.duchy(), 0);
        e.is("fine", d.count(0), 7);
        e.is("chest", d.count(1), 8);
        e.is("price", d.kind(0, 0), 9);
        e.is("worth", d.kind(0, 1), 4);
        // Behind what is left of it.
        d.feed(0x64756368, 0x79203320, 0x35000000, 0, 0);
        d.end(9);
        e.is("behind nine", d.feed(0x36202020, 0x20202020, 0x20202020, 0x20202020, 0x20202020), 29);
        d.duchy();
        e.is("chest 56", d.count(1), 56);
        // A byte of each place in the number, also above 127: it can't stand where a clause begins.
        int[] numbers = {0x80202020, 0x20ff2020, 0x2020fe20, 0x20202081};
        for (int i = 0; i < 4; i++) {
            d.feed(numbers[i], 0x20202020, 0x20202020, 0x20202020, 0x20202020);
            e.is("fault at byte " + i, d.duchy(), Due.fault(i, 0));
            d.feed(0x20202020, 0x20202020, 0x20202020, 0x20202020, numbers[i]);
            e.is("fault at byte " + (16 + i), d.duchy(), Due.fault(16 + i, 0));
        }
        for (int n : Edges.far()) {
            d.end(0);
            e.is("whatever the numbers", d.feed(n, n, n, n, n), 20);
        }
    }

    private void feedTooMuch() {
        e.promise(2, "NONE, and none comes, if it would have more than 400.");
        StampDuchy d = new StampDuchy();
        for (int i = 1; i <= 20; i++) {
            e.is("feed " + i, d.feed(0, 0, 0, 0, 0), 20 * i);
        }
        e.refused(d, NONE, () -> d.feed(0, 0, 0, 0, 0), () -> d.feed(-1, -1, -1, -1, -1));
        d.end(381);
        e.refused(d, NONE, () -> d.feed(0, 0, 0, 0, 0));
        e.is("none came", d.count(14), 381);
        d.end(380);
        e.is("just 400", d.feed(0, 0, 0, 0, 0), 400);
    }

    private void endAlone() {
        e.promise(3, "The TAPE has its first n bytes alone: n;");
        StampDuchy d = new StampDuchy();
        e.is("0 of 0", d.end(0), 0);
        Due.tape(d, "duchy 1 23456");
        e.is("all", d.end(13), 13);
        e.is("11", d.end(11), 11);
        e.is("so many", d.count(14), 11);
        d.duchy();
        e.is("the first alone", d.count(1), 234);
        Due.tape(d, "x");
        e.is("none", d.end(0), 0);
        e.is("no bytes", d.count(14), 0);
        // What was cut off does not come back.
        d.feed(0x64756368, 0x79203520, 0x36202020, 0x20202020, 0x20202020);
        e.is("the new ones", d.duchy(), 0);
        e.is("fine", d.count(0), 5);
    }

    private void endRefused() {
        e.promise(3, "NONE, and nothing happens, if it has not so many, or n is below 0.");
        StampDuchy d = new StampDuchy();
        e.refused(d, NONE, () -> d.end(1), () -> d.end(-1), () -> d.end(20));
        Due.tape(d, "duchy 1 2");
        e.refused(d, NONE, () -> d.end(10), () -> d.end(20), () -> d.end(400), () -> d.end(-1));
        for (int n : Edges.far()) {
            e.refused(d, NONE, () -> d.end(n));
        }
        e.is("it reads", d.duchy(), 0);
        StampDuchy full = new StampDuchy();
        for (int i = 0; i < 20; i++) {
            full.feed(0, 0, 0, 0, 0);
        }
        e.refused(full, NONE, () -> full.end(401));
        e.is("400", full.end(400), 400);
    }

    private void duchyInPlace() {
        e.promise(4, "The TAPE, which is empty then, is the DUCHY in place of the one there was (no LOGS, nothing to"
            + " be UNDONE; the RULE IN FORCE and x stay): how many WORKS;");
        StampDuchy d = Due.ruled("take person", Due.FULL);
        d.seed(2147483647);
        d.log(0, 0, 0);
        d.sneak(0, 0);
        Due.pass(d, 13);
        e.is("none", Due.duchy(d, "duchy 1 2"), 0);
        int[] due = {1, 2, 0, 0, 0, 1, 0, 0, 0, 0, 0, 0, 0, 2147483647, 0};
        for (int what = 0; what < due.length; what++) {
            e.is("count " + what, d.count(what), due[what]);
        }
        e.is("undo", d.undo(), -2);
        e.is("six", Due.duchy(d, Due.FULL), 6);
        e.is("hour", d.count(7), 0);
        e.is("purse as told", d.person(1, 0), 90);
        e.is("never stopped", d.work(0, 3), 0);
        Due.duchy(d, "duchy 0 0;kind 0 0;person 0 0 0 1;work 0;work 0;work 0;work 0;work 0;work 0");
        for (int work = 0; work < 6; work++) {
            e.is("lies", d.work(work, 1), NONE);
            e.is("no after", d.work(work, 4), 0);
        }
    }

    private void duchyFault() {
        e.promise(4, "-2 - its FAULT, and all stays.");
        StampDuchy d = Due.ruled("take person", Due.FULL);
        d.log(0, 0, 1);
        d.drop(0);
        d.sneak(0, 1);
        Due.pass(d, 2);
        String before = Edges.sight(d);
        e.is("the least: no bytes", d.duchy(), -3);
        e.is("place 0, clause", Due.duchy(d, "kind"), -7);
        e.is("at the very end", Due.duchy(d, Due.FULL + ";"), Due.fault(Due.FULL.length() + 1, 0));
        String right = "duchy 1 1;kind 1 1;person 1 1 1 1;work 0;held 0 0;after 0 ";
        e.is("behind much that is right", Due.duchy(d, right + "0"), Due.fault(right.length(), 1));
        e.unchanged(d, before);
        e.is("the logs stay", d.ruled(0), 2);
        e.is("what can be undone stays", d.undo(), 3);
    }

    private void ruleNumbers() {
        e.promise(5, "The TAPE, which is empty then, is a RULE: its number;");
        StampDuchy d = new StampDuchy();
        for (int i = 0; i < 6; i++) {
            e.is("number", Due.rule(d, "take person*" + i), i);
            e.is("the tape is empty", d.count(14), 0);
            e.is("rules", d.count(5), i + 1);
        }
        e.is("none is in force by it", d.count(6), NONE);
    }

    private void ruleFault() {
        e.promise(5, "-2 - its FAULT;");
        StampDuchy d = Due.told(Due.HANDING);
        String before = Edges.sight(d);
        e.is("no bytes", d.rule(), -3);
        e.is("a duchy is no rule", Due.rule(d, "duchy 0 0"), -3);
        e.is("six digits", Due.rule(d, "take 100000"), Due.fault(5, 1));
        e.is("too deep", Due.rule(d, "take 1 if " + Due.times("[", 11)), Due.fault(20, 2));
        e.unchanged(d, before);
        Due.rule(d, "take person");
        e.is("the next one is 0", d.force(0), NONE);
        // A fault within brackets, sums and sixty values leaves nothing behind.
        Due.rule(d, "take 1+1*1 if " + Due.times("[", 10) + "not ");
        Due.rule(d, "take 1 if " + Due.times("not ", 10) + "1=");
        Due.rule(d, "take " + Due.times("1+", 61));
        e.is("as deep and as many", Due.rule(d, "take 1+1+1 if " + Due.times("not ", 10) + Due.times("1=1 or ", 18)
            + Due.times("[", 10) + "1=1" + Due.times("]", 10)), 1);
        e.is("and reads right", d.ahead(1, 1, 0), 2);
        e.is("a fault then", Due.rule(d, "take"), Due.fault(4, 0));
        e.is("the first one is as it was", d.ahead(1, 1, 0), 2);
    }

    private void ruleOfSeven() {
        e.promise(5, "NONE, and nothing happens: there are 6.");
        StampDuchy d = Due.told(Due.HANDING);
        for (int i = 0; i < 5; i++) {
            Due.rule(d, "take 0");
        }
        Due.rule(d, "take person");
        d.force(5);
        Due.tape(d, "take 1");
        e.refused(d, NONE, d::rule, d::rule);
        e.is("the tape stays", d.count(14), 6);
        d.end(2);
        e.refused(d, NONE, d::rule);
        d.end(0);
        e.refused(d, NONE, d::rule);
        e.is("the sixth is as it was", d.ahead(1, 1, 0), 2);
        Due.duchy(d, Due.HANDING);
        Due.tape(d, "take 1");
        e.refused(d, NONE, d::rule);
    }

    private void forceWhichWas() {
        e.promise(6, "A RULE is IN FORCE (NONE: none): which was;");
        StampDuchy d = Due.told(Due.HANDING);
        for (int i = 0; i < 6; i++) {
            Due.rule(d, "take " + (i % 2 == 0 ? "person" : "9-person"));
        }
        e.is("5", d.force(5), NONE);
        e.is("by it", d.ahead(1, 1, 0), 1);
        e.is("0", d.force(0), 5);
        e.is("by that", d.ahead(1, 1, 0), 2);
        e.is("the same", d.force(0), 0);
        e.is("none", d.force(NONE), 0);
        e.is("none again", d.force(NONE), NONE);
        e.is("by none", d.ahead(1, 1, 0), 1);
    }

    private void forceRefused() {
        e.promise(6, "-2, and nothing happens, if there is none such.");
        StampDuchy d = new StampDuchy();
        e.refused(d, -2, () -> d.force(0), () -> d.force(-2), () -> d.force(5));
        Due.rule(d, "take 1");
        d.force(0);
        e.refused(d, -2, () -> d.force(1), () -> d.force(-2));
        for (int i = 1; i < 6; i++) {
            Due.rule(d, "take 1");
        }
        e.refused(d, -2, () -> d.force(6), () -> d.force(-2));
        for (int n : Edges.far()) {
            e.is("far", d.force(n), -2);
        }
        e.is("0 is still in force", d.count(6), 0);
    }

    private void kinds() {
        e.promise(7, "Of a KIND what 0: PRICE, 1: WORTH.");
        StampDuchy d = Due.told(Due.FULL);
        for (int kind = 0; kind < 5; kind++) {
            e.is("price " + kind, d.kind(kind, 0), 10 * kind + 10);
            e.is("worth " + kind, d.kind(kind, 1), kind + 1);
        }
    }

    private void kindsRefused() {
        e.promise(7, "NONE without these.");
        StampDuchy d = Due.told(Due.FULL);
        e.refused(d, NONE, () -> d.kind(5, 0), () -> d.kind(-1, 0), () -> d.kind(0, 2), () -> d.kind(0, -1));
        for (int n : Edges.far()) {
            e.is("far", d.kind(n, 0), NONE);
            e.is("far what", d.kind(0, n), NONE);
        }
        e.is("without a duchy", new StampDuchy().kind(0, 0), NONE);
        StampDuchy less = Due.told(Due.FULL);
        Due.duchy(less, "duchy 0 0;kind 1 1");
        e.is("of the duchy that was", less.kind(1, 0), NONE);
    }

    private void people() {
        e.promise(8, "Of a PERSON what 0: PURSE, 1: FIRST, 2: SPAN, 3: HANDS, 4: WORKS they hold, as bits, 5: 1 if"
            + " awake now, else 0.");
        StampDuchy d = Due.told(Due.FULL);
        int[][] due = {{100, 22, 8, 2, 0, 0}, {90, 6, 4, 2, 3, 1}, {80, 12, 2, 2, 12, 1}, {70, 0, 0, 3, 48, 1}};
        for (int person = 0; person < 4; person++) {
            for (int what = 0; what < 6; what++) {
                e.is("person " + person + " " + what, d.person(person, what), due[person][what]);
            }
        }
        Due.pass(d, 6);
        e.is("the last hour of sleep is over", d.person(0, 5), 1);
        e.is("the first begins", d.person(1, 5), 0);
        d.undo();
        e.is("the last hour of sleep", d.person(0, 5), 0);
        e.is("none yet", d.person(1, 5), 1);
    }

    private void peopleRefused() {
        e.promise(8, "NONE without these.");
        StampDuchy d = Due.told(Due.FULL);
        e.refused(d, NONE, () -> d.person(4, 0), () -> d.person(-1, 0), () -> d.person(0, 6), () -> d.person(0, -1));
        for (int n : Edges.far()) {
            e.is("far", d.person(n, 0), NONE);
            e.is("far what", d.person(0, n), NONE);
        }
        e.is("without a duchy", new StampDuchy().person(0, 5), NONE);
        StampDuchy less = Due.told(Due.FULL);
        Due.duchy(less, "duchy 0 0;person 0 0 0 1");
        e.is("of the duchy that was", less.person(1, 0), NONE);
    }

    private void works() {
        e.promise(9, "Of a WORK what 0: KIND, 1: who holds it (NONE: it lies), 2: 1 if SNEAKED, else 0, 3: how often"
            + " it STOPPED, 4: WORKS it can be AFTER, as bits.");
        StampDuchy d = Due.told("duchy 0 0;kind 0 0;kind 0 0;person 0 2 1 3;work 1;work 0;work 0;work 0;work 0;work"
            + " 0;held 0 0;after 0 5;after 0 1;after 5 0;after 5 1;after 5 2;after 5 3;after 5 4");
        d.sneak(5, 0);
        int[][] due = {{1, 0, 0, 0, 34}, {0, NONE, 0, 0, 0}, {0, 0, 1, 0, 31}};
        int[] which = {0, 1, 5};
        for (int i = 0; i < 3; i++) {
            for (int what = 0; what < 5; what++) {
                e.is("work " + which[i] + " " + what, d.work(which[i], what), due[i][what]);
            }
        }
        Due.pass(d, 3);
        e.is("stopped once", d.work(0, 3), 1);
        e.is("it lies", d.work(0, 1), NONE);
        e.is("not sneaked", d.work(5, 2), 0);
        e.is("never held, never stopped", d.work(1, 3), 0);
        d.begin(0, 0);
        Due.pass(d, 24);
        e.is("stopped twice", d.work(0, 3), 2);
    }

    private void worksRefused() {
        e.promise(9, "-2 without these.");
        StampDuchy d = Due.told(Due.FULL);
        e.refused(d, -2, () -> d.work(6, 0), () -> d.work(-1, 0), () -> d.work(0, 5), () -> d.work(0, -1));
        for (int n : Edges.far()) {
            e.is("far", d.work(n, 0), -2);
            e.is("far what", d.work(0, n), -2);
        }
        e.is("without a duchy", new StampDuchy().work(0, 1), -2);
        StampDuchy less = Due.told(Due.FULL);
        Due.duchy(less, "duchy 0 0;kind 0 0;work 0");
        e.is("of the duchy that was", less.work(1, 1), -2);
    }

    private void seeds() {
        e.promise(29, "x becomes a number: what it was;");
        StampDuchy d = new StampDuchy();
        e.is("0 at first", d.seed(1), 0);
        e.is("1", d.seed(2147483647), 1);
        e.is("the greatest", d.seed(0), 2147483647);
        e.is("0", d.count(13), 0);
        e.is("the same", d.seed(0), 0);
    }

    private void seedRefused() {
        e.promise(29, "NONE, and nothing happens, below 0.");
        StampDuchy d = new StampDuchy();
        d.seed(7);
        e.refused(d, NONE, () -> d.seed(-1), () -> d.seed(-2), () -> d.seed(Integer.MIN_VALUE));
        e.is("7", d.seed(0), 7);
    }

    private void counts() {
        e.promise(31, "What 0: FINE, 1: CHEST, 2: KINDS, 3: PEOPLE, 4: WORKS, 5: RULES, 6: the RULE IN FORCE (NONE),"
            + " 7: HOUR, 8: WORKS that go, as bits, 9: that are SNEAKED, as bits, 10: who is awake now, as bits, 11:"
            + " LOGS, 12: ACTS that can be UNDONE, 13: x, 14: bytes of the TAPE.");
        StampDuchy d = Due.ruled("take 1", Due.FULL);
        Due.rule(d, "take 2");
        d.force(1);
        d.hour();
        d.drop(5);
        d.sneak(5, 3);
        d.drop(0);
        d.sneak(0, 1);
        d.drop(2);
        for (int i = 0; i < 10; i++) {
            d.log(60, 5, NONE);
        }
        d.seed(2147483647);
        d.feed(0, 0, 0, 0, 0);
        d.end(19);
        int[] due = {5, 100, 5, 4, 6, 2, 1, 1, 59, 33, 14, 10, 6, 2147483647, 19};
        for (int what = 0; what < due.length; what++) {
            e.is("count " + what, d.count(what), due[what]);
        }
        d.force(NONE);
        e.is("none in force", d.count(6), NONE);
        e.is("all go", Due.told(Due.FULL).count(8), 63);
        e.is("all awake", Due.told("duchy 0 0" + Due.times(";person 0 0 0 1", 4)).count(10), 15);
        e.is("none awake", Due.told("duchy 0 0" + Due.times(";person 0 0 1 1", 4)).count(10), 0);
        StampDuchy sly = Due.told("duchy 0 0;kind 99 0" + Due.times(";person 0 0 0 3", 2) + Due.times(";work 0", 6));
        for (int work = 0; work < 6; work++) {
            sly.sneak(work, work / 3);
        }
        e.is("all sneaked", sly.count(9), 63);
    }

    private void countsRefused() {
        e.promise(31, "NONE for others.");
        StampDuchy d = Due.told(Due.FULL);
        e.refused(d, NONE, () -> d.count(15), () -> d.count(-1), () -> d.count(16));
        for (int n : Edges.far()) {
            e.is("far", d.count(n), NONE);
        }
    }
}
