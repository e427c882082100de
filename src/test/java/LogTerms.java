/** Terms, part III: logs and the rules they speak for, draws, nights, images; the constants. */
final class LogTerms {
    private static final int NONE = StampDuchy.NONE;
    /** In hour 0 person 0 hands on works 0 and 1; three others may take them. */
    private static final String FOUR = "duchy 0 0;kind 0 0;person 0 0 1 3;person 0 0 0 3;person 0 0 0 3;person 0 0 0 3;"
        + "work 0;work 0;held 0 0;held 1 0";

    private final Edges e;

    LogTerms(Edges e) {
        this.e = e;
    }

    void all() {
        logs();
        behindTheNthHour();
        ruledFromTheBegin();
        ruledHowMany();
        looks();
        looksAtSix();
        draws();
        nightsTimesHours();
        nightsDraws();
        nightsByNumber();
        nightsTold();
        images();
        imagesOfLogs();
        imagesGoneBackTo();
        constants();
    }

    private void logs() {
        e.term("III", "LOGS 0 to 9, told:");
        StampDuchy d = Due.told(Due.FULL);
        for (int i = 1; i <= 10; i++) {
            e.is("log " + i, d.log(0, 5, 3), i);
        }
        e.is("an eleventh", d.log(0, 5, 3), -2);
        e.is("they are so", d.ruled(0), 1);
        // The tenth counts as the first does.
        d.log(NONE, 0, 0);
        for (int i = 1; i <= 9; i++) {
            d.log(0, 5, 3);
        }
        d.log(0, 5, NONE);
        e.is("the tenth is not so", d.ruled(0), 0);
        d.log(NONE, 0, 0);
        d.log(0, 5, NONE);
        for (int i = 2; i <= 10; i++) {
            d.log(0, 5, 3);
        }
        e.is("the first is not so", d.ruled(0), 0);
    }

    private void behindTheNthHour() {
        e.term("III", "behind the n-th HOUR of all (0 to 60) a PERSON, or nobody (NONE), held a WORK.");
        // Each day it goes to person 1 for an hour, first behind hour 0, then behind hour 12.
        int[][] early = {{0, 1}, {1, 0}, {23, 0}, {24, 1}, {25, 0}, {59, 0}, {60, 0}};
        for (int[] log : early) {
            logIs("person 0 0 1 1;person 0 1 1 1", log[0], log[1]);
        }
        int[][] late = {{0, 0}, {11, 0}, {12, 1}, {13, 0}, {59, 0}, {60, 1}};
        for (int[] log : late) {
            logIs("person 0 12 1 1;person 0 13 1 1", log[0], log[1]);
        }
        // Nobody takes it in 12.
        logIs("person 0 12 1 1;person 0 12 1 1", 11, 0);
        logIs("person 0 12 1 1;person 0 12 1 1", 12, NONE);
        logIs("person 0 12 1 1;person 0 12 1 1", 60, NONE);
        StampDuchy d = Due.told(FOUR);
        e.is("not behind hour 61", d.log(61, 0, 0), -2);
        e.is("nor ahead of all", d.log(-2, 0, 0), -2);
    }

    /** Without a rule, and by nobody else, this one holds the work behind the hour. */
    private void logIs(String people, int hour, int holder) {
        StampDuchy d = Due.told("duchy 0 0;kind 0 0;" + people + ";work 0;held 0 0");
        for (int who = NONE; who < 2; who++) {
            d.log(NONE, 0, 0);
            d.log(hour, 0, who);
            e.is("behind " + hour + " of " + people + ": " + who, d.ruled(0), who == holder ? 1 : 0);
        }
    }

    private void ruledFromTheBegin() {
        e.term("III", "RULED: which of the RULES, and of none, so that from the begin on, all as the text told it,"
            + " all LOGS are so:");
        StampDuchy d = Due.told(FOUR);
        Due.rule(d, "take person");
        d.log(0, 0, 3);
        d.log(60, 1, 3);
        e.is("by the rule", d.ruled(1), 0);
        // What has been done since, and what is in force, is not asked.
        d.hour();
        d.drop(0);
        d.force(NONE);
        Due.pass(d, 30);
        e.is("still", d.ruled(1), 0);
        e.is("only by it", d.ruled(0), 1);
        d.log(30, 1, 1);
        e.is("one of three is not so", d.ruled(0), 0);
        // Purses are as told, too.
        d = Due.told("duchy 0 0;kind 0 9;person 0 5 1 1;person 9 0 0 1;person 8 0 0 1;work 0;held 0 0");
        Due.rule(d, "take purse");
        d.hand(0, 2);
        Due.pass(d, 3);
        d.log(5, 0, 1);
        e.is("by purses of the begin, when 1 had more than 2", d.ruled(0), 2);
    }

    private void ruledHowMany() {
        e.term("III", "how many; the first (none ahead of 0, told as NONE).");
        StampDuchy d = Due.told(FOUR);
        e.is("without rules and logs", d.ruled(0), 1);
        e.is("none", d.ruled(1), NONE);
        for (int i = 0; i < 5; i++) {
            Due.rule(d, "take 1");
        }
        Due.rule(d, "take person");
        e.is("none and six", d.ruled(0), 7);
        e.is("none first", d.ruled(1), NONE);
        d.log(0, 0, 3);
        e.is("the last", d.ruled(0), 1);
        e.is("rule 5", d.ruled(1), 5);
        d.log(0, 1, 1);
        e.is("none such", d.ruled(0), 0);
        e.is("and no first", d.ruled(1), -2);
        d = Due.told(FOUR);
        Due.rule(d, "take person");
        Due.rule(d, "take person+1");
        d.log(0, 0, 3);
        e.is("two", d.ruled(0), 2);
        e.is("rule 0 first", d.ruled(1), 0);
    }

    private static String toOf(int person, int other) {
        return "take 1 if work=0 and person=" + person + ";take 1 if work=1 and person=" + other;
    }

    private void looks() {
        e.term("III", "LOOK behind the n-th HOUR: the WORK by whose holder these part best: the most alike are"
            + " fewest, of several the least; how many.");
        StampDuchy d = Due.told(FOUR);
        e.is("none alone: the least work", d.look(0, 0), 0);
        e.is("none alone", d.look(60, 1), 1);
        Due.rule(d, toOf(1, 2));
        e.is("work 1 parts them", d.look(0, 0), 1);
        e.is("one each", d.look(0, 1), 1);
        Due.rule(d, toOf(2, 1));
        e.is("both part two and one", d.look(0, 0), 0);
        e.is("two alike", d.look(0, 1), 2);
        Due.rule(d, toOf(3, 2));
        e.is("work 0: two with 1, one with 2, one with 3; work 1: two and two", d.look(0, 0), 0);
        e.is("two of four", d.look(0, 1), 2);
        Due.rule(d, toOf(1, 3));
        e.is("work 0: three with 1; work 1: two with 1, two with 2", d.look(0, 0), 1);
        e.is("two of five", d.look(0, 1), 2);
        // Only those that are so by the logs part.
        d.log(0, 0, 1);
        e.is("three are left", d.ruled(0), 3);
        e.is("work 1 parts them all", d.look(0, 0), 1);
        e.is("one by one", d.look(60, 1), 1);
    }

    private void looksAtSix() {
        e.term("III", "the most alike are fewest");
        StampDuchy d = Due.told(FOUR);
        int[] others = {1, 2, 2, 3, 3, 7};
        for (int other : others) {
            Due.rule(d, toOf(1, other));
        }
        e.is("none and six rules", d.ruled(0), 7);
        e.is("work 0: seven with 1; work 1: two with each, and one with nobody", d.look(0, 0), 1);
        e.is("two alike", d.look(0, 1), 2);
        Due.duchy(d, "duchy 0 0;kind 0 0;person 0 0 1 3;person 0 0 0 3;work 0;held 0 0");
        e.is("all seven alike", d.look(60, 1), 7);
        // As many works as there can be: only the last one parts.
        d = Due.told("duchy 0 0;kind 0 0;person 0 0 1 3;person 0 0 1 3;person 0 0 0 3;person 0 0 0 3;work 0;work 0;"
            + "work 0;work 0;work 0;work 0;held 0 2;held 1 2;held 2 3;held 5 0");
        Due.rule(d, "take person");
        e.is("the last work", d.look(0, 0), 5);
        e.is("parts them", d.look(0, 1), 1);
        // Till hour 60 work 1 goes by both from 0 to 1 for an hour of each day; in 60 the rule gives it to 2.
        d = Due.told("duchy 0 0;kind 0 0;person 0 12 1 1;person 0 13 1 1;person 0 0 0 1;work 0;work 0;held 1 0");
        Due.rule(d, "take person if hour=60;take 9-person");
        e.is("behind 59 alike", d.look(59, 1), 2);
        e.is("by the least work", d.look(59, 0), 0);
        e.is("behind 60 one each", d.look(60, 1), 1);
        e.is("by work 1", d.look(60, 0), 1);
    }

    /** By this x one work is dropped at p, and not yet at p less 1: the first draw mod 100 is p less 1. */
    private void firstDraw(int x, int rest) {
        StampDuchy d = Due.told("duchy 0 0;kind 0 0;person 0 0 0 1;work 0;held 0 0");
        d.seed(x);
        e.is("below " + rest + " by " + x, d.nights(1, 1, rest, 0), 0);
        e.is("below " + (rest + 1) + " by " + x, d.nights(1, 1, rest + 1, 0), 1);
    }

    private void draws() {
        e.term("III", "DRAWS: x (0 to 2147483647; 0 at first) becomes x * 1103515245 + 12345, of 2147483648 the"
            + " rest; a DRAW is x / 65536.");
        StampDuchy d = new StampDuchy();
        e.is("at first", d.count(13), 0);
        e.is("the greatest", d.seed(2147483647), 0);
        e.is("it is", d.count(13), 2147483647);
        // 0: 12345 by 65536 is 0. 1: 1103527590, 16838. 2147483647: 1043980748, 15929. 1073741824: 1073754169, 16384.
        firstDraw(0, 0);
        firstDraw(1, 38);
        firstDraw(2147483647, 29);
        firstDraw(1073741824, 84);
    }

    private void nightsTimesHours() {
        e.term("III", "NIGHTS m times (1 to 10) n HOURS (1 to 60) from now on:");
        // In hour 59, the 60th, the rest of which by 24 is 11, it stops.
        StampDuchy d = Due.ruled("take 1 if hour<59", "duchy 0 0;kind 0 0;person 0 11 1 1;person 0 12 1 1;work 0;"
            + "held 0 0");
        e.is("once 59", d.nights(1, 59, 0, 0), 0);
        e.is("once 60", d.nights(1, 60, 0, 0), 1);
        e.is("ten times 59 it goes", d.nights(10, 59, 0, 1), 10);
        e.is("ten times 60 it stops", d.nights(10, 60, 0, 0), 10);
        e.is("and does not go", d.nights(10, 60, 0, 1), 0);
        e.is("once 1", d.nights(1, 1, 0, 1), 1);
        Due.pass(d, 59);
        e.is("from now on", d.nights(10, 1, 0, 0), 10);
        e.is("not 0 times", d.nights(0, 1, 0, 0), NONE);
        e.is("not 11 times", d.nights(11, 1, 0, 0), NONE);
        e.is("not 0 hours", d.nights(1, 0, 0, 0), NONE);
        e.is("not 61 hours", d.nights(1, 61, 0, 0), NONE);
    }

    private void nightsDraws() {
        e.term("III", "ahead of each a DRAW mod 100; is it below p (0 to 100), and goes a WORK,");
        String two = "duchy 0 0;kind 0 0;person 0 0 0 3;work 0;work 0;held 0 0;held 1 0";
        StampDuchy d = Due.told(two);
        e.is("never below 0", d.nights(10, 60, 0, 0), 0);
        e.is("always below 100: each goes twice, then none", d.nights(10, 60, 100, 0), 20);
        e.is("one hour drops one", d.nights(10, 1, 100, 1), 10);
        e.is("two hours drop both", d.nights(10, 2, 100, 1), 0);
        // Where none is dropped, be it by p or as none goes, there is no draw for which.
        for (int p = 0; p <= 100; p += 10) {
            for (int hours = 1; hours <= 9; hours += 4) {
                e.is("by " + p + " in " + hours, d.nights(10, hours, p, 0), dropsByHand(0, 10, hours, p));
            }
        }
        e.is("not -1", d.nights(1, 1, -1, 0), NONE);
        e.is("not 101", d.nights(1, 1, 101, 0), NONE);
    }

    /** The draws once more, of two works that nobody lets stop. */
    private static int dropsByHand(long from, int times, int hours, int p) {
        long x = from;
        int drops = 0;
        for (int time = 0; time < times; time++) {
            int going = 2;
            for (int i = 0; i < hours; i++) {
                x = (x * 1103515245L + 12345L) % 2147483648L;
                if (x / 65536 % 100 < p && going > 0) {
                    x = (x * 1103515245L + 12345L) % 2147483648L;
                    going--;
                    drops++;
                }
            }
        }
        return drops;
    }

    private void nightsByNumber() {
        e.term("III", "a DRAW mod how many go: that one, by number, is DROPPED:");
        // x 0: the second draw is 21468. Of five that go, its rest is 3: of 1 to 5 this is work 4.
        String text = "duchy 0 0;kind 0 0;person 0 0 1 3;person 0 0 1 2;person 0 0 0 3;work 0;work 0;work 0;work 0;"
            + "work 0;work 0;held 1 0;held 2 0;held 3 0;held 4 1;held 5 1";
        for (int work = 1; work <= 5; work++) {
            StampDuchy d = Due.ruled("take 1 if work=" + work, text);
            e.is("one is dropped, others stop but for " + work, d.nights(1, 1, 1, 0), work == 4 ? 5 : 4);
            e.is("which goes, but if it was dropped: " + work, d.nights(1, 1, 1, 1), work == 4 ? 0 : 1);
        }
        // Of six it is the first, of one that one.
        StampDuchy d = Due.ruled("take 1 if work=0", text + ";held 0 2");
        e.is("of six the first: 0 was with one who does not sleep", d.nights(1, 1, 1, 1), 0);
        d = Due.told("duchy 0 0;kind 0 0;person 0 0 0 1" + Due.times(";work 0", 6) + ";held 5 0");
        e.is("of one the last work", d.nights(1, 1, 1, 0), 1);
        e.is("what was asked is not done", d.work(5, 1), 0);
    }

    private void nightsTold() {
        e.term("III", "how often WORKS STOP or are DROPPED; how many go at the end, all together (x as it was).");
        StampDuchy d = Due.told("duchy 0 0;kind 0 0;person 0 5 1 3;work 0;work 0;work 0;held 0 0;held 1 0;held 2 0");
        d.seed(77);
        e.is("dropped: one", d.nights(1, 1, 100, 0), 1);
        e.is("stopped: three", d.nights(1, 6, 0, 0), 3);
        e.is("dropped or stopped: three", d.nights(1, 6, 30, 0), 3);
        e.is("all ten times three", d.nights(10, 6, 0, 0), 30);
        e.is("dropped in five hours: all", d.nights(10, 5, 100, 0), 30);
        e.is("go ten times two", d.nights(10, 1, 100, 1), 20);
        e.is("go ten times three", d.nights(10, 5, 0, 1), 30);
        e.is("x", d.count(13), 77);
        // x goes on from one time to the next, so that ten times are not ten times the same.
        d = Due.told("duchy 0 0;kind 0 0;person 0 0 0 3;work 0;work 0;held 0 0;held 1 0");
        d.seed(77);
        int once = dropsByHand(77, 1, 4, 20);
        int often = dropsByHand(77, 10, 4, 20);
        e.is("once", d.nights(1, 4, 20, 0), once);
        e.is("ten times", d.nights(10, 4, 20, 0), often);
        e.is("they are not alike", often == 10 * once ? 1 : 0, 0);
        e.is("x again", d.count(13), 77);
    }

    private void images() {
        e.term("III", "IMAGES 0 to 3: all but the RULES and the TAPE, as it is (the RULE IN FORCE, what can be"
            + " UNDONE, too);");
        StampDuchy d = new StampDuchy();
        Due.rule(d, "take person");
        for (int k = 0; k < 4; k++) {
            Due.duchy(d, "duchy " + k + " 0;kind 0 0;person 0 0 1 1;person 0 0 0 1;person 0 0 0 1;work 0;held 0 0");
            d.force(k % 2 - 1);
            d.seed(k * 10);
            for (int i = 0; i <= k; i++) {
                d.log(0, 0, 2 - k % 2);
            }
            Due.pass(d, k);
            e.is("image " + k, d.image(k), k);
        }
        e.is("no image 4", d.image(4), NONE);
        e.is("no image -1", d.image(-1), NONE);
        Due.rule(d, "take 1");
        d.feed(0, 0, 0, 0, 0);
        for (int k = 3; k >= 0; k--) {
            e.is("back to " + k, d.back(k), k);
            int[] due = {k, 0, 0, 3, 1, 2, k % 2 - 1, k, 1, 0, 7, k + 1, k, k * 10, 20};
            for (int what = 3; what < due.length; what++) {
                if (what != 10) {
                    e.is("count " + what + " of image " + k, d.count(what), due[what]);
                }
            }
            e.is("its fine", d.count(0), k);
            e.is("its holder", d.work(0, 1), new int[] {0, 2, 1, 2}[k]);
            e.is("its logs", d.ruled(0), k % 2 == 0 ? 1 : 2);
            e.is("its acts", d.undo(), k == 0 ? -2 : k - 1);
        }
    }

    private void imagesOfLogs() {
        e.term("III", "all but the RULES and the TAPE, as it is");
        StampDuchy d = Due.told(FOUR);
        Due.rule(d, "take person");
        Due.rule(d, "take person if work=1;take 1");
        d.log(9, 1, 3);
        d.image(1);
        d.log(NONE, 0, 0);
        d.log(0, 0, 1);
        d.log(60, 1, 1);
        d.image(2);
        d.log(NONE, 0, 0);
        d.back(1);
        e.is("by work 1: two rules", d.ruled(0), 2);
        e.is("the first of them", d.ruled(1), 0);
        d.log(0, 0, 1);
        e.is("with one more: rule 1", d.ruled(1), 1);
        d.back(2);
        e.is("two logs", d.count(11), 2);
        e.is("none alone", d.ruled(0), 1);
        d.back(1);
        e.is("one log", d.count(11), 1);
        e.is("two rules again", d.ruled(0), 2);
        // The hours of logs: it is with 1 behind 12 alone.
        d = Due.told("duchy 0 0;kind 0 0;person 0 12 1 1;person 0 13 1 1;work 0;held 0 0");
        d.log(12, 0, 1);
        d.image(0);
        d.log(NONE, 0, 0);
        d.log(11, 0, 1);
        d.image(1);
        d.back(0);
        e.is("behind 12", d.ruled(0), 1);
        d.back(1);
        e.is("not behind 11", d.ruled(0), 0);
        // How often a work stopped is of the image too.
        d = Due.told("duchy 0 0;kind 0 0;person 0 0 1 1;work 0;held 0 0");
        d.image(0);
        d.hour();
        d.image(1);
        d.back(0);
        e.is("not stopped yet", d.work(0, 3), 0);
        d.back(1);
        e.is("stopped", d.work(0, 3), 1);
    }

    private void imagesGoneBackTo() {
        e.term("III", "gone back to, it is as it was (these stay).");
        StampDuchy d = Due.ruled("take 1", Due.FULL);
        Due.pass(d, 27);
        d.image(0);
        String before = Edges.sight(d);
        // Whatever is done between, twenty acts and another duchy among it.
        d.drop(5);
        Due.pass(d, 22);
        d.back(0);
        e.unchanged(d, before);
        e.is("an act of it undone", d.undo(), 19);
        e.is("hour 26", d.count(7), 26);
        d.back(0);
        e.unchanged(d, before);
        Due.duchy(d, "duchy 0 0");
        Due.rule(d, "take 2");
        d.feed(0, 0, 0, 0, 0);
        d.back(0);
        e.is("rules stay", d.count(5), 2);
        e.is("the tape stays", d.count(14), 20);
        for (int left = 19; left >= 0; left--) {
            e.is("all twenty can be undone", d.undo(), left);
            e.is("one by one", d.count(7), 7 + left);
        }
    }

    private void constants() {
        e.term("III", "The constants: `NONE = -1`: None.");
        e.is("NONE", StampDuchy.NONE, -1);
    }
}
