/** Terms, part I: the texts of rules, what their words and sums are, and the faults of all texts. */
final class RuleTerms {
    /** 2 to the 63rd, which goes round to the least number there is. */
    private static final String LEAST = "65536*65536*65536*32768";

    private final Edges e;

    RuleTerms(Edges e) {
        this.e = e;
    }

    void all() {
        rulesAndClauses();
        testsAndParts();
        facts();
        signs();
        sumsAndTerms();
        numbersAndWords();
        wordsGoOn();
        wordsOfPersonAndWork();
        awake();
        sneakedAndStopped();
        divisions();
        roundIn64Bits();
        blanks();
        tenDeep();
        sixtyTogether();
        faultsOfBytes();
        faultsOfTheEnd();
        faultsOfNumbers();
        faultsOfDepth();
        faultsOfTooMany();
        faultsOfClauses();
        leastOfOnePlace();
    }

    /** By a rule work 1 goes to person 1 (30 in their purse, holds none) or 2 (20, holds one), or stops (NONE). */
    private void handsTo(String rule, int person) {
        e.is(rule, Due.ruled(rule, Due.HANDING).ahead(1, 1, 0), person);
    }

    private void so(String test) {
        handsTo("take 1 if " + test, 1);
    }

    private void notSo(String test) {
        handsTo("take 1 if " + test, StampDuchy.NONE);
    }

    private void rulesAndClauses() {
        e.term("I", "RULES 0 to 5: texts likewise, 12 CLAUSES at most: take SUM [ if TEST ].");
        StampDuchy d = new StampDuchy();
        for (int i = 0; i < 6; i++) {
            e.is("rule " + i, Due.rule(d, "take " + i), i);
        }
        Due.tape(d, "take 6");
        e.is("no rule 6", d.rule(), StampDuchy.NONE);
        e.isRule(Due.times("take 1;", 11) + "take 1");
        e.ruleFault(Due.times("take 1;", 12) + "|take 1", 4);
        handsTo(Due.times("take 0 if 1=2;", 11) + "take person", 2);
        e.is("400 bytes", Due.rule(new StampDuchy(), "take 1" + Due.times(" ", 388) + ";take1"), 0);
        e.isRule("take 1");
        e.isRule("take 1 if 1=1");
        e.ruleFault("|", 0);
        e.ruleFault("take 1;|", 0);
        e.ruleFault("|;take 1", 0);
        e.ruleFault("|if 1=1", 0);
        e.ruleFault("take |if 1=1", 0);
        e.ruleFault("take 1 if|", 0);
        e.ruleFault("take 1 if 1=1 |if 1=1", 0);
    }

    private void testsAndParts() {
        e.term("I", "TEST: PART { or PART }. PART: FACT { and FACT }.");
        so("1=1");
        notSo("1=2");
        so("1=2 or 1=2 or 1=1");
        so("1=1 and 1=1 and 1=1");
        notSo("1=1 and 1=1 and 1=2");
        so("1=1 or 1=1 and 1=2");
        so("1=2 and 1=2 or 1=1");
        notSo("1=2 or 1=1 and 1=2");
        e.ruleFault("take 1 if 1=1 or|", 0);
        e.ruleFault("take 1 if 1=1 and|", 0);
        e.ruleFault("take 1 if |or 1=1", 0);
        e.ruleFault("take 1 if 1=1 and |or 1=1", 0);
    }

    private void facts() {
        e.term("I", "FACT: not FACT | [ TEST ] (these brackets are signs) | SUM SIGN SUM,");
        notSo("not 1=1");
        so("not 1=2 or 1=2");
        notSo("not 1=1 and 1=2");
        notSo("[1=1 or 1=1]and 1=2");
        notSo("not[1=1 or 1=2]");
        so("[[not[1=2]]]");
        e.ruleFault("take 1 if [|]", 0);
        e.ruleFault("take 1 if [1=1|", 0);
        e.ruleFault("take 1 if [1=1|;take 1", 0);
        e.ruleFault("take 1 if 1=1|]", 0);
        e.ruleFault("take 1 if [1|]=1", 0);
        e.ruleFault("take 1 if not|", 0);
        e.ruleFault("take 1 if 1|", 0);
        e.ruleFault("take 1 if 1=|", 0);
        e.ruleFault("take 1 if 1=1|=1", 0);
    }

    private void signs() {
        e.term("I", "SIGN one of < <= = >= >.");
        String[] all = {"<", "<=", "=", ">=", ">"};
        boolean[] below = {true, true, false, false, false};
        boolean[] equal = {false, true, true, true, false};
        boolean[] above = {false, false, false, true, true};
        for (int i = 0; i < all.length; i++) {
            handsTo("take 1 if 4" + all[i] + "5", below[i] ? 1 : StampDuchy.NONE);
            handsTo("take 1 if 5" + all[i] + "5", equal[i] ? 1 : StampDuchy.NONE);
            handsTo("take 1 if 6" + all[i] + "5", above[i] ? 1 : StampDuchy.NONE);
            handsTo("take 1 if not 4" + all[i] + "5", below[i] ? StampDuchy.NONE : 1);
            handsTo("take 1 if not 5" + all[i] + "5", equal[i] ? StampDuchy.NONE : 1);
            handsTo("take 1 if not 6" + all[i] + "5", above[i] ? StampDuchy.NONE : 1);
            handsTo("take 1 if 1=1 and 4" + all[i] + "5", below[i] ? 1 : StampDuchy.NONE);
            handsTo("take 1 if 6" + all[i] + "5 and 1=1", above[i] ? 1 : StampDuchy.NONE);
        }
        e.ruleFault("take 1 if 1< |=1", 0);
        e.ruleFault("take 1 if 1=|<1", 0);
        e.ruleFault("take 1 if 1=|=1", 0);
        e.ruleFault("take 1 if 1<|>1", 0);
        e.ruleFault("take 1 if 1<=|=1", 0);
        e.ruleFault("take 1 if 1|!1", 0);
    }

    private void sumsAndTerms() {
        e.term("I", "SUM: TERM { (+ or -) TERM }. TERM: VALUE { (* or / or %) VALUE }.");
        so("1+2*3=7 and 2*3+1=7");
        so("7-3-2=2 and 7-3+2=6");
        so("12/3*2=8 and 2*7%4=2 and 8/2/2=2 and 9%5*2=8");
        so("9-2*3+8/4%3-1=4");
        e.ruleFault("take 1+|", 0);
        e.ruleFault("take |+1", 0);
        e.ruleFault("take 1+|+1", 0);
        e.ruleFault("take 1*|-1", 0);
        e.ruleFault("take |[1]", 0);
    }

    private void numbersAndWords() {
        e.term("I", "VALUE: NUMBER (1 to 5 digits, as far as digits go on) | WORD.");
        e.isRule("take 9");
        e.isRule("take 99999");
        so("99999=99999 and 99999+1=50000*2");
        so("00012=12 and 00000=0");
        e.ruleFault("take |100000", 1);
        e.ruleFault("take |000000", 1);
        e.ruleFault("take 1+|1234567890123456789012345", 1);
        e.ruleFault("take 1 |1", 0);
        e.ruleFault("take person |person", 0);
        so("1=1and 2=2or 3=3");
        so("hour=hour");
    }

    private void wordsGoOn() {
        e.term("I", "WORDS (small letters, as far as these go on)");
        for (char letter = 'a'; letter <= 'z'; letter++) {
            e.ruleFault("|take" + letter + " 1", 0);
            e.ruleFault("take |hour" + letter, 0);
            e.duchyFault("|duchy" + letter + " 0 0", 0);
        }
        for (char sign : new char[] {'`', '{', '@', '[', 'A', 'Z', '_', 223, 228, 255}) {
            e.ruleFault("take|" + sign + " 1", 0);
            e.duchyFault("duchy|" + sign + " 0 0", 0);
        }
        e.ruleFault("take |hours", 0);
        e.ruleFault("take |hou", 0);
        e.ruleFault("take |houR", 0);
        e.ruleFault("take hour|R", 0);
        e.ruleFault("|taker 1", 0);
        e.ruleFault("|takehour", 0);
        e.ruleFault("take hour |iff 1=1", 0);
        e.ruleFault("take |hourif 1=1", 0);
        e.ruleFault("take hour if 1=1 |andhour=1", 0);
        e.ruleFault("take hour if |nothour=1", 0);
        e.ruleFault("take |take", 0);
        e.ruleFault("take |" + Due.times("z", 395), 0);
        e.isRule("take1if2=2or 3=3");
        e.isRule("take hour*person");
    }

    private void wordsOfPersonAndWork() {
        e.term("I", "of a PERSON and a WORK: person, work, kind, worth, price (of its KIND), purse, holds (WORKS"
            + " they hold), hands, hour,");
        handsTo("take person", 2);
        handsTo("take 1 if person=1", 1);
        so("work=1 and kind=1 and worth=7 and price=5 and hour=0");
        handsTo("take 1 if purse=30 and holds=0 and hands=2", 1);
        handsTo("take 1 if purse=20 and holds=1 and hands=3", 2);
        // Edges of holds and hands: three of three hands, and none.
        StampDuchy d = Due.ruled("take 1 if holds=2 and hands=3", "duchy 0 0;kind 0 0;person 0 1 1 1;person 0 0 0 3;"
            + "work 0;work 0;work 0;held 0 0;held 1 1;held 2 1");
        e.is("the third hand", d.ahead(0, 2, 0), 1);
        // The hour is that of all, not that of the day.
        d = Due.ruled("take 1 if hour=24", "duchy 0 0;kind 0 0;person 0 0 1 1;person 0 1 1 1;work 0");
        Due.pass(d, 2);
        d.begin(0, 0);
        e.is("hour 24", d.ahead(0, 23, 0), 1);
        // Greatest numbers: 999 in a purse, 99 a price, 9 a worth, work 5, kind 4, person 3.
        d = Due.ruled("take 1 if person=3 and purse=999 and work=5 and kind=4 and worth=9 and price=99",
            "duchy 0 0;kind 0 0;kind 0 0;kind 0 0;kind 0 0;kind 99 9;person 0 0 1 1;person 0 0 0 1;person 0 0 0 1;"
            + "person 999 0 0 1;work 0;work 0;work 0;work 0;work 0;work 4;held 5 0");
        e.is("the last of all", d.ahead(5, 1, 0), 3);
    }

    /** Person 0 falls asleep in an hour in which person 1 has so many till they do. */
    private void awakeFor(int first, int span, int hour, int hours) {
        StampDuchy d = Due.ruled("take 1 if awake=" + hours, "duchy 0 0;kind 0 0;person 0 " + hour % 24 + " 1 1;"
            + "person 0 "
            + first + " " + span + " 1;work 0");
        Due.pass(d, hour - 1);
        d.begin(0, 0);
        e.is("awake of " + first + " " + span + " in " + hour, d.ahead(0, 2, 0), 1);
    }

    private void awake() {
        e.term("I", "awake (HOURS, this one the first, till they are asleep; 24 at most),");
        awakeFor(6, 1, 5, 1);
        awakeFor(6, 1, 4, 2);
        awakeFor(6, 1, 7, 23);
        awakeFor(6, 23, 5, 1);
        awakeFor(6, 0, 6, 24);
        awakeFor(6, 0, 5, 24);
        awakeFor(0, 1, 23, 1);
        awakeFor(0, 2, 2, 22);
        awakeFor(0, 1, 47, 1);
        awakeFor(22, 4, 26, 20);
        notSo("awake>24 or awake<1");
    }

    private void sneakedAndStopped() {
        e.term("I", "sneaked (1 if it is, else 0), stopped (how often it STOPPED).");
        StampDuchy d = Due.ruled("take 1 if sneaked=1;take 1 if stopped=2 and sneaked=0",
            "duchy 0 0;kind 0 0;person 0 5 1 1;person 0 0 0 1;work 0;held 0 0");
        e.is("neither: it stops", d.stops(0), 5);
        Due.pass(d, 6);
        e.is("stopped once", d.work(0, 3), 1);
        Due.pass(d, 19);
        d.sneak(0, 0);
        e.is("sneaked: handed on", d.ahead(0, 5, 0), 1);
        e.is("and for good", d.stops(0), -2);
        d.undo();
        d.begin(0, 0);
        e.is("not sneaked, and stopped but once", d.stops(0), 29);
        Due.pass(d, 5);
        e.is("stopped twice", d.work(0, 3), 2);
        d.begin(0, 0);
        e.is("handed on", d.stops(0), -2);
    }

    private void divisions() {
        e.term("I", "/ is towards 0, % its rest, both 0 by 0;");
        so("6/2=3 and 7/2=3 and 1/2=0 and 0/5=0");
        so("6%2=0 and 7%2=1 and 1%2=1 and 0%5=0");
        so("5/0=0 and 5%0=0 and 0/0=0 and 0%0=0");
        handsTo("take 1 if 5/holds=0 and 5%holds=0", 1);
        handsTo("take 1 if 5/holds=5 and 5%holds=0", 2);
        so(LEAST + "/65536/65536/65536/10000=0-3");
        so(LEAST + "%10=0-8");
        so(LEAST + "/0=0 and " + LEAST + "%0=0");
        so("5/0*3+7%0+1=1");
    }

    private void roundIn64Bits() {
        e.term("I", "all goes round in 64 bits.");
        so(LEAST + "<0");
        so(LEAST + "-1>0");
        so(LEAST + "-1+1<0");
        so(LEAST + "+" + LEAST + "=0");
        so("65536*65536*65536*65536=0");
        so("65536*65536*65536*65536+7=7");
        // 99999 to the 4th is 99996000059999600001, less five times 2 to the 64th 7762279691451841921.
        so("99999*99999*99999*99999%50000=41921");
        so("65536*32768>0 and 65536*65536>0 and 65536*65536*2=65536*65536+65536*65536");
        handsTo("take " + LEAST, StampDuchy.NONE);
        handsTo("take " + LEAST + "-1", 1);
        handsTo("take " + LEAST + "-person", 1);
    }

    private void blanks() {
        e.term("I", "Blanks (32) stand between as one likes.");
        e.is("a duchy with many", Due.duchy(new StampDuchy(), "   duchy   1   2   ;   kind   3   4   "), 0);
        e.is("a duchy with few", Due.duchy(new StampDuchy(), "duchy1 2;kind3 4;person5 6 7 1;work0;held0 0"), 1);
        e.isRule("  take  1  +  2  if  not  [  1  <=  2  ]  and  1  =  1  ;  take  3  ");
        e.isRule("take1+2if not[1<=2]and 1=1;take3");
        e.duchyFault("duchy 12|", 0);
        e.ruleFault("take 1 |2", 0);
        e.ruleFault("take 1 if 1> |=1", 0);
        for (char sign : new char[] {0, 9, 10, 11, 12, 13, 31, 33, 127, 128, 160, 255}) {
            e.duchyFault("duchy 1|" + sign + "2", 0);
            e.ruleFault("take|" + sign + "1", 0);
        }
    }

    private void tenDeep() {
        e.term("I", "[ and not lie within one another 10 deep at most;");
        so(Due.times("[", 10) + "1=1" + Due.times("]", 10));
        so(Due.times("not ", 10) + "1=1");
        notSo(Due.times("not ", 9) + "1=1");
        so(Due.times("not[", 4) + "[[1=1" + Due.times("]", 6));
        so(Due.times("[not ", 4) + "[[1=1" + Due.times("]", 6));
        // Side by side they are not within one another.
        so(Due.times("not ", 10) + "1=1 and " + Due.times("not ", 10) + "1=1");
        so(Due.times("[", 10) + "1=1" + Due.times("]", 10) + "and" + Due.times("[", 10) + "1=1" + Due.times("]", 10));
        so(Due.times("[", 9) + "not 1=2 and not 1=2 or[1=1]" + Due.times("]", 9));
        handsTo("take 0 if not " + Due.times("[", 9) + "1=1" + Due.times("]", 9) + ";take 1 if " + Due.times("not ", 10)
            + "1=1", 1);
        e.ruleFault("take 1 if " + Due.times("[", 10) + "|[1=1", 2);
        e.ruleFault("take 1 if " + Due.times("not ", 10) + "|not 1=1", 2);
    }

    private void sixtyTogether() {
        e.term("I", "at most 60 VALUES (of SUMS) and FACTS made of a SIGN, together.");
        e.isRule("take 1" + Due.times("+1", 59));
        e.ruleFault("take 1" + Due.times("+1", 59) + "+|1", 3);
        // Three of each fact, and what is taken: 3 and 19 times 3.
        String full = "take 1+1+1 if " + Due.times("1=1 or ", 18) + "1=1";
        e.isRule(full);
        e.ruleFault(full + "+|1", 3);
        e.ruleFault(full + " or |1=1", 3);
        e.ruleFault(full + ";take |1", 3);
        e.ruleFault("take 1+1+1+1 if " + Due.times("1=1 or ", 18) + "1=|1", 3);
        e.ruleFault("take 1+1+1+1+1 if " + Due.times("1=1 or ", 18) + "1|=1", 3);
        e.ruleFault("take 1+1+1+1+1 if " + Due.times("1=1 or ", 18) + "1 |<= 1", 3);
        // Brackets, not, and, or and clauses count nothing.
        e.isRule("take 1+1+1 if not not[[" + Due.times("1=1 and ", 18) + "1=1]]");
        e.isRule(Due.times("take 1+1+1+1+1;", 11) + "take 1+1+1+1+1");
        e.ruleFault(Due.times("take 1+1+1+1+1;", 11) + "take 1+1+1+1+1+|1", 3);
    }

    private void faultsOfBytes() {
        e.term("I", "FAULTS, the first along the text, 1 + 8 * its place and: 0 a byte or WORD that can't stand"
            + " there,");
        for (int sign = 0; sign < 256; sign++) {
            boolean goesOn = sign == ' ' || sign >= '0' && sign <= '9';
            boolean opens = "+-*/%;".indexOf(sign) >= 0;
            int due = goesOn ? 0 : Due.fault(opens ? 7 : 6, 0);
            e.is("take 1 and byte " + sign, Due.rule(new StampDuchy(), "take 1" + (char) sign), due);
            due = goesOn ? 0 : Due.fault(sign == ';' ? 10 : 9, 0);
            e.is("duchy 0 0 and byte " + sign, Due.duchy(new StampDuchy(), "duchy 0 0" + (char) sign), due);
            due = sign == ' ' ? 0 : Due.fault(0, 0);
            e.is("byte " + sign + " ahead of duchy", Due.duchy(new StampDuchy(), (char) sign + "duchy 0 0"), due);
            e.is("byte " + sign + " ahead of take", Due.rule(new StampDuchy(), (char) sign + "take 1"), due);
        }
        e.duchyFault("duchy 0 |x;kind 100 0", 0);
        e.duchyFault("duchy 0 0;kind |100 x", 1);
        e.duchyFault("duchy 0 0;|kid 0 0", 0);
        e.duchyFault("|Duchy 0 0", 0);
        e.ruleFault("take |x;take 100000", 0);
        e.ruleFault("take |100000;take x", 1);
    }

    private void faultsOfTheEnd() {
        e.term("I", "or the end (behind the last byte);");
        e.duchyFault("|", 0);
        e.duchyFault("   |", 0);
        e.duchyFault("duchy|", 0);
        e.duchyFault("duchy 0 0;kind 0  |", 0);
        e.ruleFault("|", 0);
        e.ruleFault("take   |", 0);
        e.ruleFault("take 1 if 1=1 and  |", 0);
        e.ruleFault("take 1 if [1=1  |", 0);
        e.ruleFault("take 1" + Due.times(" ", 393) + "+|", 0);
        e.duchyFault("duchy 0" + Due.times(" ", 393) + "|", 0);
    }

    private void faultsOfNumbers() {
        e.term("I", "1 a NUMBER of more digits, or not as told (of held the PERSON, if they can't hold it; of after the"
            + " second WORK, if it is the first);");
        e.duchyFault("duchy |000000 0", 1);
        e.duchyFault("duchy 0 |000001", 1);
        e.is("five digits", Due.duchy(new StampDuchy(), "duchy 00099 09999"), 0);
        e.duchyFault("duchy 0 0;kind 0 0;person 0 0 0 1;work 0;work 0;held 0 0;held 1 |0", 1);
        e.duchyFault("duchy 0 0;kind 0 0;person 0 0 0 1;work 0;work 0;held 0 0;held 1 |000", 1);
        e.duchyFault("duchy 0 0;kind 0 0;work 0;after 0 |0", 1);
        e.duchyFault("duchy 0 0;kind 0 0;work 0;after 0   |00000", 1);
        e.duchyFault("duchy 0 0;kind 0 0;work 0;after 0 |000000", 1);
        e.ruleFault("take 1 if 1=|123456", 1);
    }

    private void faultsOfDepth() {
        e.term("I", "2 too deep (at the sign that opens, or the word not);");
        e.ruleFault("take 1 if " + Due.times("[", 10) + "  |[", 2);
        e.ruleFault("take 1 if " + Due.times("not ", 10) + "  |not", 2);
        e.ruleFault("take 1 if " + Due.times("not[", 5) + "|not 1=1", 2);
        e.ruleFault("take 1 if " + Due.times("not[", 5) + "|[1=1", 2);
        e.ruleFault("take 1 if " + Due.times("[", 5) + "1=1 and " + Due.times("[", 5) + "|[", 2);
        e.ruleFault("take 1;take 1 if " + Due.times("[", 10) + "1=1 or |not 1=1", 2);
        // Another word in the eleventh place is no depth.
        e.ruleFault("take 1 if " + Due.times("[", 10) + "|nothing", 0);
    }

    private void faultsOfTooMany() {
        e.term("I", "3 one VALUE or FACT too many (at its first byte; of a FACT at its SIGN);");
        e.ruleFault("take 1" + Due.times("+1", 59) + "+ |stopped", 3);
        e.ruleFault("take 1" + Due.times("+1", 59) + "+ |12345", 3);
        e.ruleFault("take 1" + Due.times("+1", 58) + " if 1 |>= 1", 3);
        e.ruleFault("take 1" + Due.times("+1", 57) + " if 1>= |1", 3);
        e.ruleFault("take 1" + Due.times("+1", 59) + " if not |1=1", 3);
    }

    private void faultsOfClauses() {
        e.term("I", "4 one CLAUSE too many, a second duchy, another CLAUSE ahead of it, a sixth KIND, a fifth PERSON, a"
            + " seventh WORK (at its first byte).");
        e.ruleFault(Due.times("take 1;", 12) + "  |take", 4);
        e.duchyFault("duchy 0 0" + Due.times(";kind 0 0", 5) + ";  |kind", 4);
        e.duchyFault("duchy 0 0" + Due.times(";person 0 0 0 1", 4) + "; |person", 4);
        e.duchyFault("duchy 0 0;kind 0 0" + Due.times(";work 0", 6) + "; |work", 4);
        e.duchyFault("duchy 0 0;  |duchy", 4);
        e.duchyFault("  |person", 4);
        e.is("a fifth kind, a fourth person, a sixth work", Due.duchy(new StampDuchy(), "duchy 0 0"
            + Due.times(";kind 0 0", 5) + Due.times(";person 0 0 0 1", 4) + Due.times(";work 4", 6)), 6);
    }

    private void leastOfOnePlace() {
        e.term("I", "Of one place the least.");
        e.duchyFault("duchy 0 0;kind 0 0;work 0;work 0" + Due.times(";after 1 0", 36) + ";|aft", 0);
        e.duchyFault("duchy 0 0" + Due.times(";kind 0 0", 5) + ";|kinds", 0);
        e.ruleFault(Due.times("take 1;", 12) + "|takes", 0);
        e.ruleFault("take 1" + Due.times("+1", 59) + "+|123456", 1);
        e.ruleFault("take 1" + Due.times("+1", 59) + "+|stop", 0);
        e.ruleFault("take 1" + Due.times("+1", 58) + " if 1 |! 1", 0);
        e.ruleFault("take 1 if " + Due.times("[", 10) + "|]", 0);
    }
}
