import java.util.Arrays;

/** Terms, part II: sleep, hands, hours and acts. */
final class HourTerms {
    private final Edges e;

    HourTerms(Edges e) {
        this.e = e;
    }

    void all() {
        asleep();
        handFree();
        worksByNumbers();
        whoseHolderIsAsleep();
        toWhoIsAwakeAndFree();
        byTheFirstClause();
        aboveZeroAndFirst();
        withoutARule();
        stops();
        worths();
        clerkByDays();
        clerkTakes();
        lastHour();
        acts();
        begins();
        sneaks();
        hands();
        drops();
        twentyUndone();
    }

    private void sleeps(int first, int span, int... hours) {
        StampDuchy d = Due.told("duchy 0 0;person 0 " + first + " " + span + " 1");
        for (int hour = 0; hour < 50; hour++) {
            int now = hour % 24;
            int awake = Arrays.stream(hours).anyMatch(h -> h == now) ? 0 : 1;
            e.is("awake by " + first + " " + span + " in " + hour, d.person(0, 5), awake);
            e.is("bits of it", d.count(10), awake);
            d.hour();
        }
    }

    private void asleep() {
        e.term("II", "A PERSON is asleep in HOURS whose rest by 24 is FIRST, or one of the SPAN - 1 next ones, round"
            + " the day (SPAN 0: never).");
        sleeps(0, 0);
        sleeps(23, 0);
        sleeps(0, 1, 0);
        sleeps(23, 1, 23);
        sleeps(23, 2, 23, 0);
        sleeps(22, 4, 22, 23, 0, 1);
        sleeps(0, 3, 0, 1, 2);
        sleeps(5, 23, 5, 6, 7, 8, 9, 10, 11, 12, 13, 14, 15, 16, 17, 18, 19, 20, 21, 22, 23, 0, 1, 2, 3);
        sleeps(7, 24, 0, 1, 2, 3, 4, 5, 6, 7, 8, 9, 10, 11, 12, 13, 14, 15, 16, 17, 18, 19, 20, 21, 22, 23);
    }

    private void handFree() {
        e.term("II", "A HAND is free, if they hold fewer WORKS than HANDS.");
        for (int hands = 1; hands <= 3; hands++) {
            StampDuchy d = Due.told("duchy 0 0;kind 0 0;person 0 0 0 " + hands + ";work 0;work 0;work 0;work 0");
            for (int work = 0; work < 4; work++) {
                e.is("work " + work + " of " + hands, d.begin(work, 0), work < hands ? 0 : StampDuchy.NONE);
            }
            d.drop(0);
            e.is("free again", d.sneak(3, 0), 8);
            e.is("full again", d.sneak(0, 0), StampDuchy.NONE);
        }
    }

    private void worksByNumbers() {
        e.term("II", "An HOUR: (1) WORKS by numbers:");
        StampDuchy d = Due.told("duchy 0 0;kind 0 0;person 0 0 1 3;person 0 0 0 1;work 0;work 0;work 0;"
            + "held 2 0;held 1 0;held 0 0");
        e.is("one hand for three", d.hour(), 2);
        e.is("the first has it", d.count(8), 1);
        // Works of another sleeper lie between.
        d = Due.told("duchy 0 0;kind 0 0;person 0 0 1 2;person 0 0 1 2;person 0 0 0 2;work 0;work 0;work 0;work 0;"
            + "held 3 0;held 0 1;held 1 0;held 2 1");
        e.is("two hands for four", d.hour(), 2);
        e.is("the first two have them", d.count(8), 3);
    }

    private void whoseHolderIsAsleep() {
        e.term("II", "one that goes, whose holder is asleep in this HOUR,");
        StampDuchy d = Due.told("duchy 0 0;kind 0 1;person 0 2 1 1;person 0 0 2 1;work 0;work 0;held 0 0");
        d.hour();
        d.hour();
        e.is("till the hour ahead", d.work(0, 1), 0);
        d.hour();
        e.is("in the first hour of sleep", d.work(0, 1), 1);
        e.is("who slept has it not of that hour", d.person(0, 0), 2);
        e.is("who took it has", d.person(1, 0), 1);
        d.hour();
        e.is("it does not come back", d.work(0, 1), 1);
        e.is("one that lies is given to nobody", d.work(1, 1), StampDuchy.NONE);
        e.is("nor does it stop", d.work(1, 3), 0);
    }

    private void toWhoIsAwakeAndFree() {
        e.term("II", "goes to that PERSON who is awake in it and has a HAND free then");
        StampDuchy d = Due.told("duchy 0 0;kind 0 0;person 0 0 1 2;person 0 0 1 3;person 0 0 0 1;person 0 1 1 1;work 0;"
            + "work 0;held 0 0;held 1 0");
        e.is("both go on", d.hour(), 0);
        e.is("past the sleeper", d.work(0, 1), 2);
        e.is("past the hand taken in this hour", d.work(1, 1), 3);
        d = Due.told("duchy 0 0;kind 0 0;person 0 0 1 1;person 0 23 1 1;person 0 0 2 1;work 0;work 0;held 0 0;held 1"
            + " 1");
        e.is("full hands and a sleeper", d.hour(), 1);
        // A hand that gets free only behind this work's turn is not free then.
        d = Due.told("duchy 0 0;kind 0 0;person 0 0 1 1;person 0 0 1 1;work 0;work 0;held 0 0;held 1 1");
        e.is("two sleepers can't change", d.hour(), 2);
    }

    private void handsTo(String rule, int person) {
        e.is(rule, Due.ruled(rule, Due.HANDING).ahead(1, 1, 0), person);
    }

    private void byTheFirstClause() {
        e.term("II", "for whom the SUM of the RULE IN FORCE's first CLAUSE without a TEST, or whose TEST holds (0"
            + " without), is greatest,");
        handsTo("take person;take 9 if person=1", 2);
        handsTo("take 3 if person=1;take 2", 1);
        handsTo("take 1 if person=1;take 2", 2);
        handsTo("take 2 if person=2;take 2 if person=2;take 1", 2);
        handsTo("take 5 if person=7", StampDuchy.NONE);
        handsTo("take 0-9 if person=1;take 1 if person=2", 2);
        handsTo("take 1 if person=2", 2);
        StampDuchy d = Due.told(Due.HANDING);
        Due.rule(d, "take 0");
        Due.rule(d, "take person");
        e.is("a rule that is not in force", d.ahead(1, 1, 0), 1);
        d.force(1);
        e.is("the one in force", d.ahead(1, 1, 0), 2);
    }

    private void aboveZeroAndFirst() {
        e.term("II", "if it is above 0, of several the first;");
        handsTo("take 1", 1);
        handsTo("take 0", StampDuchy.NONE);
        handsTo("take 0-1", StampDuchy.NONE);
        handsTo("take person-1", 2);
        handsTo("take 2-person", 1);
        handsTo("take 1-person", StampDuchy.NONE);
        handsTo("take 65536*65536*65536*32768-1", 1);
        handsTo("take 65536*65536*65536*32768", StampDuchy.NONE);
    }

    private void withoutARule() {
        e.term("II", "without a RULE to the first such PERSON;");
        StampDuchy d = Due.told(Due.HANDING);
        e.is("the first", d.ahead(1, 1, 0), 1);
        Due.rule(d, "take person");
        d.force(0);
        d.force(StampDuchy.NONE);
        e.is("none in force again", d.ahead(1, 1, 0), 1);
    }

    private void stops() {
        e.term("II", "is there none, it STOPS: it lies, and is not SNEAKED.");
        StampDuchy d = Due.told("duchy 9 0;kind 0 3;person 0 2 1 2;work 0;work 0");
        d.hour();
        d.sneak(0, 0);
        d.begin(1, 0);
        e.is("an hour awake", d.hour(), 0);
        e.is("sneaked by then", d.count(9), 1);
        e.is("an hour asleep", d.hour(), 2);
        e.is("none goes", d.count(8), 0);
        e.is("none is sneaked", d.count(9), 0);
        e.is("stopped", d.work(0, 3), 1);
        e.is("the other", d.work(1, 3), 1);
        e.is("nothing for the hour in which they stop", d.person(0, 0), 6);
        e.is("what lies stops no more", d.hour(), 0);
        e.is("once", d.work(0, 3), 1);
    }

    private void worths() {
        e.term("II", "(2) Each holder gets the WORTH of each WORK they hold (9999 at most in a PURSE).");
        StampDuchy d = Due.told("duchy 0 0;kind 0 9;kind 0 0;person 999 0 0 3;person 5 0 0 3;work 0;work 0;work 0;"
            + "work 1;held 0 0;held 1 0;held 2 0;held 3 1");
        d.hour();
        e.is("three of 9", d.person(0, 0), 1026);
        e.is("one of 0", d.person(1, 0), 5);
        Due.pass(d, 332);
        e.is("333 hours of 27", d.person(0, 0), 9990);
        d.image(0);
        d.drop(0);
        d.drop(1);
        d.hour();
        e.is("just 9999", d.person(0, 0), 9999);
        d.hour();
        e.is("no more", d.person(0, 0), 9999);
        d.back(0);
        d.hour();
        e.is("not 10017", d.person(0, 0), 9999);
        e.is("ahead neither", d.ahead(0, 100, 1), 9999);
    }

    private void clerkByDays() {
        e.term("II", "(3) Is HOUR a multiple of 24, a clerk comes:");
        StampDuchy d = Due.told("duchy 2 0;kind 0 0;person 50 0 0 1;work 0");
        d.sneak(0, 0);
        d.hour();
        e.is("in hour 0", d.count(1), 2);
        d.drop(0);
        d.sneak(0, 0);
        Due.pass(d, 23);
        e.is("not in 1 to 23", d.count(1), 2);
        e.is("sneaked at 24", d.count(9), 1);
        d.hour();
        e.is("in 24", d.count(1), 4);
        d.drop(0);
        d.sneak(0, 0);
        e.is("not in 25 to 47", d.ahead(0, 23, 2), 4);
        e.is("in 48", d.ahead(0, 24, 2), 6);
        e.is("once", d.ahead(0, 100, 2), 6);
    }

    private void fined(String text, int purse, int chest) {
        StampDuchy d = Due.told(text);
        d.sneak(0, 0);
        d.sneak(1, 0);
        d.hour();
        e.is("purse by " + text, d.person(0, 0), purse);
        e.is("chest by " + text, d.count(1), chest);
        e.is("none is sneaked", d.count(9), 0);
        e.is("they go", d.count(8), d.count(4) == 2 ? 3 : 1);
    }

    private void clerkTakes() {
        e.term("II", "WORKS by numbers, who holds one that is SNEAKED pays FINE, or all they have if that is less,"
            + " into the CHEST (99999 at most), and it is not SNEAKED any more.");
        fined("duchy 5 0;kind 0 0;person 6 0 0 2;work 0", 1, 5);
        fined("duchy 5 0;kind 0 0;person 5 0 0 2;work 0", 0, 5);
        fined("duchy 5 0;kind 0 0;person 4 0 0 2;work 0", 0, 4);
        fined("duchy 5 0;kind 0 0;person 0 0 0 2;work 0", 0, 0);
        fined("duchy 0 7;kind 0 0;person 9 0 0 2;work 0", 9, 7);
        fined("duchy 5 0;kind 0 0;person 11 0 0 2;work 0;work 0", 1, 10);
        fined("duchy 5 0;kind 0 0;person 9 0 0 2;work 0;work 0", 0, 9);
        // What the hour brings is there when the clerk comes.
        fined("duchy 5 0;kind 0 2;person 1 0 0 2;work 0", 0, 3);
        fined("duchy 5 0;kind 0 3;person 1 0 0 2;work 0;work 0", 0, 7);
        // No call can bring the chest to 99999, but it goes on above what a text can tell.
        fined("duchy 99 9999;kind 0 0;person 999 0 0 2;work 0;work 0", 801, 10197);
        // Who only began pays nothing, and who took it over pays.
        StampDuchy d = Due.told("duchy 5 0;kind 0 0;person 9 0 0 2;person 9 0 0 2;work 0;work 0");
        d.sneak(0, 0);
        d.begin(1, 0);
        d.hand(0, 1);
        d.hour();
        e.is("who began", d.person(0, 0), 9);
        e.is("who took it over", d.person(1, 0), 4);
    }

    private void lastHour() {
        e.term("II", "(4) HOUR is 1 more (999 at most).");
        StampDuchy d = Due.told("duchy 0 0");
        d.hour();
        e.is("1 more", d.count(7), 1);
        Due.pass(d, 998);
        e.is("999", d.count(7), 999);
        e.is("no more", d.hour(), StampDuchy.NONE);
        e.is("still 999", d.count(7), 999);
        d.undo();
        e.is("998 again", d.count(7), 998);
        e.is("and on", d.hour(), 0);
    }

    private void acts() {
        e.term("II", "ACTS: an HOUR;");
        StampDuchy d = Due.ruled("take 1", Due.TOWN);
        e.is("none yet", d.count(12), 0);
        d.hour();
        e.is("an hour", d.count(12), 1);
        d.force(StampDuchy.NONE);
        d.seed(3);
        d.log(0, 0, 0);
        d.image(0);
        d.ahead(0, 5, 0);
        d.nights(1, 1, 100, 0);
        Due.tape(d, "take 2");
        d.rule();
        e.is("nothing else is one", d.count(12), 1);
    }

    private void begins() {
        e.term("II", "BEGIN (a WORK that lies, by a PERSON who is awake now, has a HAND free and the PRICE, which"
            + " goes into the CHEST: it goes, they hold it);");
        StampDuchy d = Due.told("duchy 0 7;kind 10 0;kind 0 0;person 10 1 1 1;person 9 0 1 1;person 0 0 0 1;work 0;"
            + "work 1");
        e.is("one less than the price, and asleep", d.begin(0, 1), StampDuchy.NONE);
        e.is("asleep, though it costs nothing", d.begin(1, 1), StampDuchy.NONE);
        e.is("nothing of something", d.begin(0, 2), StampDuchy.NONE);
        e.is("nothing for nothing", d.begin(1, 2), 0);
        e.is("one that goes", d.begin(1, 0), StampDuchy.NONE);
        e.is("just the price", d.begin(0, 0), 0);
        e.is("in the chest", d.count(1), 17);
        e.is("it goes", d.count(8), 3);
        e.is("they hold it", d.work(0, 1), 0);
        e.is("not sneaked", d.count(9), 0);
        d.undo();
        d.hour();
        e.is("asleep now", d.begin(0, 0), StampDuchy.NONE);
        e.is("one less than the price", d.begin(0, 1), StampDuchy.NONE);
        d.drop(1);
        e.is("awake now", d.begin(1, 1), 9);
        e.is("no hand free", d.begin(0, 1), StampDuchy.NONE);
        d.hour();
        e.is("awake again", d.begin(0, 0), 0);
    }

    private void sneaks() {
        e.term("II", "SNEAK (likewise, for nothing; it is SNEAKED);");
        StampDuchy d = Due.told("duchy 0 7;kind 10 0;person 0 1 1 1;person 99 0 1 1;work 0;work 0");
        e.is("asleep", d.sneak(0, 1), StampDuchy.NONE);
        e.is("without the price", d.sneak(1, 0), 2);
        e.is("no hand free", d.sneak(0, 0), StampDuchy.NONE);
        d.hour();
        e.is("one that goes", d.sneak(1, 1), StampDuchy.NONE);
        e.is("with the price, awake now", d.sneak(0, 1), 1);
        e.is("for nothing", d.person(1, 0), 99);
        e.is("nothing in the chest", d.count(1), 7);
        d.drop(1);
        e.is("asleep now", d.sneak(1, 0), StampDuchy.NONE);
    }

    private void hands() {
        e.term("II", "HAND (a WORK that goes to another PERSON, both awake now, with a HAND free);");
        StampDuchy d = Due.told("duchy 0 0;kind 0 0;person 0 1 1 1;person 0 2 1 1;person 0 0 1 1;work 0;work 0;work 0;"
            + "held 0 0;held 2 2");
        e.is("one that lies", d.hand(1, 1), StampDuchy.NONE);
        e.is("to the same", d.hand(0, 0), StampDuchy.NONE);
        e.is("to a sleeper", d.hand(0, 2), StampDuchy.NONE);
        e.is("from a sleeper", d.hand(2, 1), StampDuchy.NONE);
        e.is("from full hands", d.hand(0, 1), 0);
        e.is("and back", d.hand(0, 0), 1);
        d.begin(1, 1);
        e.is("to full hands", d.hand(0, 1), StampDuchy.NONE);
        d = Due.told("duchy 0 0;kind 0 0;person 0 1 1 3;person 0 2 1 3;work 0;held 0 0");
        e.is("to the same with hands free", d.hand(0, 0), StampDuchy.NONE);
        e.is("now", d.hand(0, 1), 0);
        d.hour();
        e.is("to one who sleeps now", d.hand(0, 0), StampDuchy.NONE);
        d.hour();
        e.is("from one who sleeps now", d.hand(0, 0), StampDuchy.NONE);
    }

    private void drops() {
        e.term("II", "DROP (a WORK that goes lies, and is not SNEAKED).");
        StampDuchy d = Due.told("duchy 0 0;kind 0 0;person 0 0 1 1;person 0 1 1 2;work 0;work 0;work 0;held 0 0");
        e.is("one that lies", d.drop(1), StampDuchy.NONE);
        e.is("of a sleeper", d.drop(0), 0);
        e.is("it lies", d.count(8), 0);
        e.is("again", d.drop(0), StampDuchy.NONE);
        d.sneak(1, 1);
        d.sneak(2, 1);
        e.is("one of two", d.drop(1), 1);
        e.is("the other stays sneaked", d.count(9), 4);
        e.is("that is not to stop", d.work(1, 3), 0);
        d.begin(1, 1);
        e.is("begun anew it is not sneaked", d.work(1, 2), 0);
    }

    private void twentyUndone() {
        e.term("II", "The last 20 ACTS can be UNDONE, the last first.");
        StampDuchy d = Due.told("duchy 0 0;kind 3 2;person 9 0 0 1;person 9 0 0 1;work 0");
        d.begin(0, 0);
        Due.pass(d, 19);
        e.is("twenty", d.count(12), 20);
        d.image(0);
        for (int left = 19; left >= 0; left--) {
            e.is("undone", d.undo(), left);
            e.is("the last first", d.count(7), Math.max(0, left - 1));
        }
        e.is("it lies again", d.count(8), 0);
        e.is("no more", d.undo(), -2);
        d.back(0);
        d.hour();
        e.is("of 21 still twenty", d.count(12), 20);
        for (int left = 19; left >= 0; left--) {
            e.is("undone of 21", d.undo(), left);
        }
        e.is("the first one stays", d.count(8), 1);
        e.is("no more of 21", d.undo(), -2);
        d.hand(0, 1);
        d.drop(0);
        d.sneak(0, 0);
        e.is("three more", d.count(12), 3);
        e.is("the sneak", d.undo(), 2);
        e.is("sneaked none", d.count(9), 0);
        e.is("the drop", d.undo(), 1);
        e.is("held again", d.work(0, 1), 1);
        e.is("the hand", d.undo(), 0);
        e.is("by who held it", d.work(0, 1), 0);
    }
}
