/** Terms, part I: the text of a duchy, clause by clause. */
final class DuchyTerms {
    private static final String HEAD = "duchy 0 0;kind 0 0;person 0 0 0 1;";

    private final Edges e;

    DuchyTerms(Edges e) {
        this.e = e;
    }

    void all() {
        fourHundredBytes();
        fortyClauses();
        fineAndChest();
        duchyOnceAndFirst();
        priceAndWorth();
        purseSleepAndHands();
        workOfAKind();
        heldByWhoWasTold();
        heldThatLay();
        heldWithAHandFree();
        heldAsleepOrNot();
        afterAnother();
        afterToldAlready();
        numbersInTheOrderTold();
        numbersBehindTheLast();
        numbersOfTheDuchyThatWas();
        hourZero();
    }

    private void fourHundredBytes() {
        e.term("I", "A DUCHY is a text of at most 400 bytes:");
        StampDuchy d = new StampDuchy();
        e.is("400 bytes, most of them blanks behind", Due.duchy(d, "duchy 7 8" + Due.times(" ", 391)), 0);
        e.is("its fine", d.count(0), 7);
        e.is("400 bytes, most of them blanks ahead", Due.duchy(d, Due.times(" ", 391) + "duchy 9 5"), 0);
        e.is("its chest, by the 400th byte", d.count(1), 5);
        e.duchyFault("duchy 7 8" + Due.times(" ", 390) + "|x", 0);
        e.duchyFault("duchy 7 8;" + Due.times(" ", 390) + "|", 0);
    }

    /** So many clauses, the last ones told already: 392 bytes for 40. */
    private static String clauses(int number) {
        return "duchy 0 0;kind 0 0;work 0;work 0" + Due.times(";after 1 0", number - 4);
    }

    private void fortyClauses() {
        e.term("I", "CLAUSE { ; CLAUSE }, 40 at most:");
        e.is("one", Due.duchy(new StampDuchy(), "duchy 0 0"), 0);
        e.is("39", Due.duchy(new StampDuchy(), clauses(39)), 2);
        e.is("40", Due.duchy(new StampDuchy(), clauses(40)), 2);
        e.duchyFault(clauses(40) + ";|kind 0", 4);
        e.duchyFault(clauses(40) + "; |held", 4);
        e.duchyFault(clauses(40) + ";|", 0);
        e.duchyFault("|", 0);
        e.duchyFault("|;duchy 0 0", 0);
        e.duchyFault("duchy 0 0;|", 0);
        e.duchyFault("duchy 0 0;|;kind 0 0", 0);
        e.duchyFault("duchy 0 0 |kind 0 0", 0);
        e.duchyFault("duchy 0 0|,kind 0 0", 0);
    }

    private void fineAndChest() {
        e.term("I", "duchy NUMBER NUMBER (FINE 0 to 99; CHEST 0 to 9999;");
        StampDuchy d = Due.told("duchy 0 0");
        e.is("least fine", d.count(0), 0);
        e.is("least chest", d.count(1), 0);
        d = Due.told("duchy 99 9999");
        e.is("greatest fine", d.count(0), 99);
        e.is("greatest chest", d.count(1), 9999);
        e.duchyFault("duchy |100 0", 1);
        e.duchyFault("duchy |99999 0", 1);
        e.duchyFault("duchy 99 |10000", 1);
        e.duchyFault("duchy |-1 0", 0);
        e.duchyFault("duchy 0 |-1", 0);
        e.duchyFault("duchy 0|", 0);
        e.duchyFault("duchy 0|;kind 0 0", 0);
        e.duchyFault("duchy 0 0 |0", 0);
    }

    private void duchyOnceAndFirst() {
        e.term("I", "once, the first CLAUSE)");
        e.duchyFault("duchy 0 0;|duchy 0 0", 4);
        e.duchyFault("duchy 0 0;kind 0 0; |duchy 0 0", 4);
        e.duchyFault("|kind 0 0;duchy 0 0", 4);
        e.duchyFault("|person 0 0 0 1;duchy 0 0", 4);
        e.duchyFault("|work 0", 4);
        e.duchyFault(" |held 0 0", 4);
        e.duchyFault("|after 0 1", 4);
    }

    private void priceAndWorth() {
        e.term("I", "| kind NUMBER NUMBER (PRICE 0 to 99 of its stamp; WORTH 0 to 9 an HOUR)");
        StampDuchy d = Due.told("duchy 0 0;kind 0 9;kind 99 0");
        e.is("least price", d.kind(0, 0), 0);
        e.is("greatest worth", d.kind(0, 1), 9);
        e.is("greatest price", d.kind(1, 0), 99);
        e.is("least worth", d.kind(1, 1), 0);
        e.duchyFault("duchy 0 0;kind |100 0", 1);
        e.duchyFault("duchy 0 0;kind 0 |10", 1);
        e.duchyFault("duchy 0 0;kind 0|", 0);
        e.duchyFault("duchy 0 0;kind 0 0 |0", 0);
    }

    private void purseSleepAndHands() {
        e.term("I", "| person NUMBER NUMBER NUMBER NUMBER (PURSE 0 to 999; asleep from FIRST, 0 to 23, of each day on"
            + " for SPAN HOURS, 0 to 24; HANDS 1 to 3)");
        StampDuchy d = Due.told("duchy 0 0;person 0 0 0 1;person 999 23 24 3");
        int[] least = {0, 0, 0, 1};
        int[] greatest = {999, 23, 24, 3};
        for (int what = 0; what < 4; what++) {
            e.is("least " + what, d.person(0, what), least[what]);
            e.is("greatest " + what, d.person(1, what), greatest[what]);
        }
        e.duchyFault("duchy 0 0;person |1000 0 0 1", 1);
        e.duchyFault("duchy 0 0;person 0 |24 0 1", 1);
        e.duchyFault("duchy 0 0;person 0 0 |25 1", 1);
        e.duchyFault("duchy 0 0;person 0 0 0 |0", 1);
        e.duchyFault("duchy 0 0;person 0 0 0 |4", 1);
        e.duchyFault("duchy 0 0;person 0 0 0|", 0);
        e.duchyFault("duchy 0 0;person 0 0 0 1 |1", 0);
    }

    private void workOfAKind() {
        e.term("I", "| work NUMBER (a KIND that was told; it lies)");
        StampDuchy d = Due.told("duchy 0 0;kind 0 0;kind 0 0;work 1;work 0");
        e.is("the last kind", d.work(0, 0), 1);
        e.is("the first kind", d.work(1, 0), 0);
        e.is("it lies", d.work(0, 1), StampDuchy.NONE);
        e.is("it has not stopped", d.work(0, 3), 0);
        e.duchyFault("duchy 0 0;work |0", 1);
        e.duchyFault("duchy 0 0;work |0;kind 0 0", 1);
        e.duchyFault("duchy 0 0;kind 0 0;work |1", 1);
        e.duchyFault("duchy 0 0;kind 0 0;work |1;kind 0 0", 1);
        e.duchyFault("duchy 0 0;kind 0 0;work|", 0);
        e.duchyFault("duchy 0 0;kind 0 0;work 0 |0", 0);
    }

    private void heldByWhoWasTold() {
        e.term("I", "| held NUMBER NUMBER (a WORK, a PERSON that were told: it goes, and they hold it;");
        StampDuchy d = Due.told(HEAD + "person 0 0 0 1;work 0;work 0;held 1 1");
        e.is("who holds the last work", d.work(1, 1), 1);
        e.is("works that go", d.count(8), 2);
        e.is("works of the last person", d.person(1, 4), 2);
        e.duchyFault(HEAD + "held |0 0", 1);
        e.duchyFault(HEAD + "held |0 0;work 0", 1);
        e.duchyFault(HEAD + "work 0;held |1 0", 1);
        e.duchyFault("duchy 0 0;kind 0 0;work 0;held 0 |0", 1);
        e.duchyFault("duchy 0 0;kind 0 0;work 0;held 0 |0;person 0 0 0 1", 1);
        e.duchyFault(HEAD + "work 0;held 0 |1", 1);
        e.duchyFault(HEAD + "work 0;held |1 1", 1);
        e.duchyFault(HEAD + "work 0;held 0|", 0);
    }

    private void heldThatLay() {
        e.term("I", "it lay by what was told so far,");
        // The person can't hold it: the fault is theirs, though they have hands free.
        e.duchyFault("duchy 0 0;kind 0 0;person 0 0 0 3;work 0;held 0 0;held 0 |0", 1);
        e.duchyFault("duchy 0 0;kind 0 0;person 0 0 0 3;person 0 0 0 3;work 0;held 0 0;held 0 |1", 1);
        e.is("another one", Due.duchy(new StampDuchy(), "duchy 0 0;kind 0 0;person 0 0 0 3;work 0;held 0 0;work 0;"
            + "held 1 0"), 2);
    }

    private void heldWithAHandFree() {
        e.term("I", "they had a HAND free;");
        for (int hands = 1; hands <= 3; hands++) {
            StringBuilder text = new StringBuilder("duchy 0 0;kind 0 0;person 0 0 0 " + hands);
            text.append(";work 0;work 0;work 0;work 0");
            for (int work = 0; work < hands; work++) {
                text.append(";held ").append(work).append(" 0");
            }
            e.is("as many as hands: " + hands, Due.told(text.toString()).person(0, 4), (1 << hands) - 1);
            e.duchyFault(text + ";held " + hands + " |0", 1);
        }
    }

    private void heldAsleepOrNot() {
        e.term("I", "asleep or not)");
        StampDuchy d = Due.told("duchy 0 0;kind 0 0;person 0 0 24 1;person 0 0 0 1;work 0;work 0;held 0 0;held 1 1");
        e.is("by one who always sleeps", d.work(0, 1), 0);
        e.is("by one who never does", d.work(1, 1), 1);
    }

    private void afterAnother() {
        e.term("I", "| after NUMBER NUMBER (a WORK that was told can go on from another one;");
        StampDuchy d = Due.told("duchy 0 0;kind 0 0;work 0;work 0;work 0;after 0 2;after 2 0;after 2 1");
        e.is("of the first", d.work(0, 4), 4);
        e.is("of the second", d.work(1, 4), 0);
        e.is("of the third", d.work(2, 4), 3);
        e.duchyFault("duchy 0 0;kind 0 0;after |0 0", 1);
        e.duchyFault("duchy 0 0;kind 0 0;work 0;after |1 0", 1);
        e.duchyFault("duchy 0 0;kind 0 0;work 0;after 0 |1", 1);
        e.duchyFault("duchy 0 0;kind 0 0;work 0;after 0 |1;work 0", 1);
        e.duchyFault("duchy 0 0;kind 0 0;work 0;after 0 |0", 1);
        e.duchyFault("duchy 0 0;kind 0 0;work 0;work 0;after 1 |1", 1);
        e.duchyFault("duchy 0 0;kind 0 0;work 0;work 0;after 1|", 0);
    }

    private void afterToldAlready() {
        e.term("I", "told already: nothing new).");
        StampDuchy d = Due.told("duchy 0 0;kind 0 0;work 0;work 0;after 1 0;after 1 0;after 1 0");
        e.is("told three times", d.work(1, 4), 1);
        e.is("begins", d.chains(0), 1);
    }

    private void numbersInTheOrderTold() {
        e.term("I", "KINDS 0 to 4, PEOPLE 0 to 3, WORKS 0 to 5, in the order told.");
        StampDuchy d = Due.told("duchy 0 0;kind 10 1;kind 11 2;kind 12 3;kind 13 4;kind 14 5;person 20 0 0 1;"
            + "person 21 0 0 1;person 22 0 0 1;person 23 0 0 1;work 4;work 3;work 2;work 1;work 0;work 4");
        e.is("kinds", d.count(2), 5);
        e.is("people", d.count(3), 4);
        e.is("works", d.count(4), 6);
        for (int i = 0; i < 6; i++) {
            e.is("kind " + i, d.kind(i, 0), i < 5 ? 10 + i : StampDuchy.NONE);
            e.is("person " + i, d.person(i, 0), i < 4 ? 20 + i : StampDuchy.NONE);
            e.is("work " + i, d.work(i, 0), i < 5 ? 4 - i : 4);
        }
        e.is("no work 6", d.work(6, 0), -2);
        d = Due.told("duchy 0 0");
        e.is("no kinds", d.count(2), 0);
        e.is("no people", d.count(3), 0);
        e.is("no works", d.count(4), 0);
        d = Due.told("duchy 0 0;person 1 0 0 1;kind 1 0;work 0;person 2 0 0 1;work 0;kind 2 0;work 1;held 2 1");
        e.is("mixed: the second person", d.person(1, 0), 2);
        e.is("mixed: the second kind", d.kind(1, 0), 2);
        e.is("mixed: the third work", d.work(2, 0), 1);
    }

    private void numbersBehindTheLast() {
        e.term("I", "KINDS 0 to 4, PEOPLE 0 to 3, WORKS 0 to 5,");
        e.duchyFault("duchy 0 0" + Due.times(";kind 0 0", 5) + ";work |5", 1);
        e.duchyFault("duchy 0 0;kind 0 0;work 0" + Due.times(";person 0 0 0 1", 4) + ";held 0 |4", 1);
        e.duchyFault(Due.FULL + ";held |6 0", 1);
        e.duchyFault(Due.FULL + ";after |6 0", 1);
        e.duchyFault(Due.FULL + ";after 0 |6", 1);
        e.is("the last of each", Due.told("duchy 0 0" + Due.times(";kind 0 0", 5) + Due.times(";person 0 0 0 1", 4)
            + Due.times(";work 4", 6) + ";held 5 3;after 5 4;after 4 5").work(5, 1), 3);
    }

    private void numbersOfTheDuchyThatWas() {
        e.term("I", "a WORK, a PERSON that were told:");
        // What another duchy, or a text with a fault, told is not told.
        StampDuchy d = Due.told(Due.FULL);
        Due.duchy(d, Due.FULL + ";");
        String one = "duchy 0 0;kind 0 0;person 0 0 0 1;work 0;";
        for (String clause : new String[] {"work |1", "held 0 |1", "held |1 0", "after 0 |1", "after |1 0"}) {
            String text = one + clause;
            e.is(text, Due.duchy(d, text.replace("|", "")), Due.fault(text.indexOf('|'), 1));
        }
        e.is("nor held", Due.duchy(d, one + "held 0 0"), 1);
        e.is("by anybody else", d.person(0, 4), 1);
        e.is("nor after anything", d.work(0, 4), 0);
    }

    private void hourZero() {
        e.term("I", "It is HOUR 0.");
        StampDuchy d = new StampDuchy();
        Due.duchy(d, "duchy 0 0");
        e.is("at first", d.count(7), 0);
        Due.pass(d, 3);
        Due.duchy(d, "duchy 0 0");
        e.is("again", d.count(7), 0);
    }
}
