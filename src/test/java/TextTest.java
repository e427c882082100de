/** Promises 1 to 6 by hand: a new object, the tape, the texts of duchies and rules, the rule in force. */
public final class TextTest {
    private static final String TOWN = Due.TOWN;
    private static final String HANDING = Due.HANDING;

    private static final Due DUE = new Due();

    public static void main(String[] args) {
        newObject();
        feedAndEnd();
        duchyTexts();
        duchyFaults();
        duchyFaultsOfClauses();
        duchyInPlaceOfAnother();
        ruleFaults();
        ruleLimits();
        sixRules();
        ruleWords();
        ruleSums();
        ruleTests();
        ruleChoice();
        forceARule();
        DUE.finish();
    }

    private static void newObject() {
        StampDuchy d = new StampDuchy();
        for (int what = 0; what <= 14; what++) {
            DUE.is("new count " + what, d.count(what), what == 6 ? -1 : 0);
        }
        DUE.is("new kind", d.kind(0, 0), -1);
        DUE.is("new person", d.person(0, 0), -1);
        DUE.is("new work", d.work(0, 0), -2);
        DUE.is("new hour", d.hour(), -1);
        DUE.is("new undo", d.undo(), -2);
        DUE.is("new ahead", d.ahead(0, 0, 2), -2);
        DUE.is("new most", d.most(1, 0), -1);
        DUE.is("new chains", d.chains(2), -3);
        DUE.is("new help", d.help(1, 0), -2);
        DUE.is("new watch", d.watch(0), -1);
        DUE.is("new ruled", d.ruled(0), -3);
        DUE.is("new look", d.look(0, 0), -1);
        DUE.is("new nights", d.nights(1, 1, 1, 0), -1);
        DUE.is("new back", d.back(0), -1);
        DUE.is("NONE", StampDuchy.NONE, -1);
    }

    private static void feedAndEnd() {
        StampDuchy d = new StampDuchy();
        for (int i = 1; i <= 20; i++) {
            DUE.is("feed " + i, d.feed(-1, 0, 1, 2, 3), 20 * i);
        }
        DUE.is("feed 21", d.feed(0, 0, 0, 0, 0), -1);
        DUE.is("full", d.count(14), 400);
        DUE.is("end 401", d.end(401), -1);
        DUE.is("end 400", d.end(400), 400);
        DUE.is("end -1", d.end(-1), -1);
        DUE.is("end 381", d.end(381), 381);
        DUE.is("feed at 381", d.feed(0, 0, 0, 0, 0), -1);
        DUE.is("none came", d.count(14), 381);
        DUE.is("end 380", d.end(380), 380);
        DUE.is("feed at 380", d.feed(0, 0, 0, 0, 0), 400);
        DUE.is("end 0", d.end(0), 0);
        DUE.is("end 1 of none", d.end(1), -1);
        // "duchy 1 2;kind 34 5" in numbers, the highest byte first
        d.feed(0x64756368, 0x79203120, 0x323b6b69, 0x6e642033, 0x34203500);
        d.end(19);
        DUE.is("duchy fed by numbers", d.duchy(), 0);
        DUE.is("its fine", d.count(0), 1);
        DUE.is("its price", d.kind(0, 0), 34);
        DUE.is("its worth", d.kind(0, 1), 5);
    }

    private static void duchyIs(String text, int works) {
        StampDuchy d = new StampDuchy();
        DUE.is("duchy " + text, Due.duchy(d, text), works);
        DUE.is("tape behind " + text, d.count(14), 0);
    }

    private static void duchyTexts() {
        duchyIs("duchy 0 0", 0);
        duchyIs("  duchy   99 9999  ", 0);
        duchyIs("duchy00099 09999;kind99 9;person999 23 24 3;work0;held0 0", 1);
        duchyIs("duchy 0 0 ; kind 0 0 ;work 0 ;work 0; after 0 1;after 0 1", 2);
        duchyIs("duchy 0 0;kind 0 0;kind 0 0;kind 0 0;kind 0 0;kind 0 0;work 4;work 4;work 4;work 4;work 4;work 0", 6);
        duchyIs("duchy 0 0;person 0 0 0 1;person 0 0 0 1;person 0 0 0 1;person 0 0 0 1", 0);
        duchyIs(clauses(40), 2);
        StampDuchy d = Due.told("duchy 0 0;kind 0 0;person 0 0 24 2;work 0;work 0;held 1 0;held 0 0");
        DUE.is("held though asleep", d.person(0, 4), 3);
    }

    private static String clauses(int number) {
        StringBuilder text = new StringBuilder("duchy 0 0;kind 0 0;work 0;work 0");
        for (int i = 4; i < number; i++) {
            text.append(";after 1 0");
        }
        return text.toString();
    }

    private static void duchyFault(String text, int place, int code) {
        StampDuchy d = Due.told(TOWN);
        d.sneak(3, 2);
        DUE.is("duchy " + text, Due.duchy(d, text), Due.fault(place, code));
        DUE.is("tape behind " + text, d.count(14), 0);
        DUE.is("works stay", d.count(4), 4);
        DUE.is("fine stays", d.count(0), 7);
        DUE.is("acts stay", d.count(12), 1);
        DUE.is("sneaked stays", d.count(9), 8);
        DUE.is("kinds stay", d.kind(1, 0), 4);
        DUE.is("holder stays", d.work(0, 1), 0);
    }

    private static void duchyFaults() {
        duchyFault("", 0, 0);
        duchyFault("   ", 3, 0);
        duchyFault("dutchy 0 0", 0, 0);
        duchyFault("Duchy 0 0", 0, 0);
        duchyFault("duchyz 0 0", 0, 0);
        duchyFault("duchya 0 0", 0, 0);
        duchyFault("duchy{ 0 0", 5, 0);
        duchyFault("duchy` 0 0", 5, 0);
        duchyFault("duchy 0: 0", 7, 0);
        duchyFault("duchy 0/ 0", 7, 0);
        duchyFault("duchy", 5, 0);
        duchyFault("duchy  ", 7, 0);
        duchyFault("duchy 0", 7, 0);
        duchyFault("duchy 0 x", 8, 0);
        duchyFault("duchy 0 -1", 8, 0);
        duchyFault("duchy 100 0", 6, 1);
        duchyFault("duchy 000001 0", 6, 1);
        duchyFault("duchy 0 10000", 8, 1);
        duchyFault("duchy 0 0;", 10, 0);
        duchyFault("duchy 0 0;  ", 12, 0);
        duchyFault("duchy 0 0 0", 10, 0);
        duchyFault("duchy 0 0 123456", 10, 0);
        duchyFault("duchy 0 0;;kind 0 0", 10, 0);
        duchyFault("duchy 0 0;kinds 0 0", 10, 0);
        duchyFault("duchy 0 0" + (char) 0, 9, 0);
        duchyFault("duchy 0 0" + (char) 255, 9, 0);
        duchyFault("kind 0 0;duchy 0 0", 0, 4);
        duchyFault("  work 0", 2, 4);
        duchyFault("duchy 0 0; duchy 0 0", 11, 4);
        duchyFault("duchy 0 0;person 0 0 0 0", 23, 1);
        duchyFault("duchy 0 0;person 0 0 0 4", 23, 1);
        duchyFault("duchy 0 0;person 0 0 25 4", 21, 1);
        duchyFault("duchy 0 0;person 0 24 25 4", 19, 1);
        duchyFault("duchy 0 0;person 1000 24 25 4", 17, 1);
        duchyFault("duchy 0 0;kind 0 10", 17, 1);
        duchyFault("duchy 0 0;kind 100 x", 15, 1);
    }

    private static void duchyFaultsOfClauses() {
        duchyFault("duchy 0 0;kind 0 0;work 1", 24, 1);
        duchyFault("duchy 0 0;kind 0 0;work 0;held 0 0", 33, 1);
        duchyFault("duchy 0 0;kind 0 0;work 0;held 1 0", 31, 1);
        duchyFault("duchy 0 0;kind 0 0;work 0;after 0 1", 34, 1);
        duchyFault("duchy 0 0;kind 0 0;work 0;after 1 0", 32, 1);
        duchyFault("duchy 0 0;kind 0 0;work 0;after 0 0", 34, 1);
        String one = "duchy 0 0;kind 0 0;person 0 0 0 1;person 0 0 0 2;work 0;work 0;held 0 0";
        duchyFault(one + ";held 1 0", one.length() + 8, 1);
        duchyFault(one + ";held 0 1", one.length() + 8, 1);
        duchyFault(one + ";held 1 2", one.length() + 8, 1);
        duchyFault(one + ";held 2 9", one.length() + 6, 1);
        String kinds = "duchy 0 0;kind 0 0;kind 0 0;kind 0 0;kind 0 0;kind 0 0;";
        duchyFault(kinds + "kind 0 0", kinds.length(), 4);
        duchyFault(kinds + "kid 0 0", kinds.length(), 0);
        String people = "duchy 0 0;person 0 0 0 1;person 0 0 0 1;person 0 0 0 1;person 0 0 0 1;";
        duchyFault(people + " person x", people.length() + 1, 4);
        String works = "duchy 0 0;kind 0 0;work 0;work 0;work 0;work 0;work 0;work 0;";
        duchyFault(works + "work 0", works.length(), 4);
        duchyFault(clauses(40) + ";work 9", clauses(40).length() + 1, 4);
        duchyFault(clauses(40) + ";wor 9", clauses(40).length() + 1, 0);
        duchyFault(clauses(40) + ";", clauses(40).length() + 1, 0);
    }

    private static void duchyInPlaceOfAnother() {
        StampDuchy d = new StampDuchy();
        Due.rule(d, "take 1");
        d.force(0);
        d.seed(77);
        Due.duchy(d, TOWN);
        Due.pass(d, 5);
        d.log(3, 0, 1);
        DUE.is("another duchy", Due.duchy(d, "duchy 3 4;kind 1 1;person 5 0 0 1;work 0"), 1);
        DUE.is("its hour", d.count(7), 0);
        DUE.is("its chest", d.count(1), 4);
        DUE.is("its people", d.count(3), 1);
        DUE.is("no logs", d.count(11), 0);
        DUE.is("nothing to be undone", d.count(12), 0);
        DUE.is("undo of nothing", d.undo(), -2);
        DUE.is("the rule in force stays", d.count(6), 0);
        DUE.is("x stays", d.count(13), 77);
        DUE.is("nothing goes", d.count(8), 0);
        DUE.is("no after", d.work(0, 4), 0);
        DUE.is("never stopped", d.work(0, 3), 0);
        Due.duchy(d, "duchy 0 0;kind 0 0;work 0;work 0;work 0;after 2 1");
        Due.duchy(d, "duchy 0 0;kind 0 0;work 0;work 0;work 0");
        DUE.is("no after of the one before", d.work(2, 4), 0);
    }

    private static void ruleFault(String text, int place, int code) {
        StampDuchy d = new StampDuchy();
        DUE.is("rule " + text, Due.rule(d, text), Due.fault(place, code));
        DUE.is("tape behind " + text, d.count(14), 0);
        DUE.is("no rule by " + text, d.count(5), 0);
    }

    private static void ruleIs(String text) {
        StampDuchy d = new StampDuchy();
        DUE.is("rule " + text, Due.rule(d, text), 0);
        DUE.is("rules by " + text, d.count(5), 1);
        DUE.is("tape behind rule", d.count(14), 0);
    }

    private static void ruleFaults() {
        ruleFault("", 0, 0);
        ruleFault("tak 1", 0, 0);
        ruleFault("1", 0, 0);
        ruleFault("take", 4, 0);
        ruleFault("take 1;", 7, 0);
        ruleFault("take 1;;take 1", 7, 0);
        ruleFault("take 1 2", 7, 0);
        ruleFault("take 1 234567", 7, 0);
        ruleFault("take 123456", 5, 1);
        ruleFault("take 1+", 7, 0);
        ruleFault("take 1++1", 7, 0);
        ruleFault("take -1", 5, 0);
        ruleFault("take hourly", 5, 0);
        ruleFault("take if", 5, 0);
        ruleFault("take not", 5, 0);
        ruleFault("take [1]", 5, 0);
        ruleFault("take 1=1", 6, 0);
        ruleFault("take 1 iff 1=1", 7, 0);
        ruleFault("take 1 or 1=1", 7, 0);
        ruleFault("take 1 if", 9, 0);
        ruleFault("take 1 if 1", 11, 0);
        ruleFault("take 1 if 1;take 1", 11, 0);
        ruleFault("take 1 if 1 and 1=1", 12, 0);
        ruleFault("take 1 if 1=", 12, 0);
        ruleFault("take 1 if 1=1=1", 13, 0);
        ruleFault("take 1 if 1< =1", 13, 0);
        ruleFault("take 1 if 1=<1", 12, 0);
        ruleFault("take 1 if 1<=>1", 13, 0);
        ruleFault("take 1 if [1=1", 14, 0);
        ruleFault("take 1 if [1=1;take 1", 14, 0);
        ruleFault("take 1 if 1=1]", 13, 0);
        ruleFault("take 1 if [1]=1", 12, 0);
        ruleFault("take 1 if []", 11, 0);
        ruleFault("take 1 if [1=1] 1", 16, 0);
        ruleFault("take 1 if [1=1]+1", 15, 0);
        ruleFault("take 1 if 1=1 and", 17, 0);
        ruleFault("take 1 if 1=1 not 1=1", 14, 0);
        ruleFault("take 1 if 1=1 if 1=1", 14, 0);
        ruleFault("take 1 if and", 10, 0);
        ruleFault("take 1 if not", 13, 0);
        ruleFault("take 1 if 1=1 take 1", 14, 0);
        ruleFault("take 1 if 100000=1", 10, 1);
        ruleFault("take 1" + (char) 200, 6, 0);
    }

    private static void ruleLimits() {
        // A fault leaves nothing behind for the text that comes next.
        StampDuchy d = new StampDuchy();
        Due.rule(d, "take 1+1*1 if " + Due.times("[", 10) + "not ");
        Due.rule(d, "take " + Due.times("1+", 61));
        DUE.is("a rule behind faults", Due.rule(d, "take 1+1+1 if " + Due.times("not ", 10) + Due.times("1=1 or ",
            18) + "1=1"), 0);
        ruleIs("take 99999");
        ruleIs("  take  person  if  not[hour>=1 or awake<=2]and kind>3 ;take1if2=2  ");
        ruleIs(Due.times("take 1;", 11) + "take 1");
        ruleFault(Due.times("take 1;", 12) + "take 1", 84, 4);
        ruleFault(Due.times("take 1;", 12) + "tak 1", 84, 0);
        ruleFault(Due.times("take 1;", 12), 84, 0);
        ruleIs("take 1 if " + Due.times("[", 10) + "1=1" + Due.times("]", 10));
        ruleIs("take 1 if " + Due.times("not ", 10) + "1=1");
        ruleIs("take 1 if " + Due.times("not ", 10) + "1=1 and " + Due.times("not ", 10) + "1=1;take 1 if "
            + Due.times("[", 10) + "1=1" + Due.times("]", 10) + " or " + Due.times("not [",
                5) + "1=1" + Due.times("]", 5));
        ruleFault("take 1 if " + Due.times("[", 11) + "1=1", 20, 2);
        ruleFault("take 1 if " + Due.times("not ", 11) + "1=1", 50, 2);
        ruleFault("take 1 if " + Due.times("not [", 5) + "not 1=1", 35, 2);
        ruleFault("take 1 if " + Due.times("[", 5) + "1=1 and " + Due.times("[", 6), 28, 2);
        // 60 together: 1 value taken, then facts of three each
        ruleIs("take 1+1+1 if " + Due.times("1=1 or ", 18) + "1=1");
        ruleFault("take 1+1+1 if " + Due.times("1=1 or ", 18) + "1=1+1", 144, 3);
        ruleFault("take 1+1+1+1 if " + Due.times("1=1 or ", 18) + "1=1", 144, 3);
        ruleFault("take 1+1+1+1+1 if " + Due.times("1=1 or ", 18) + "1=1", 145, 3);
        ruleFault("take 1+1+1 if " + Due.times("1=1 or ", 18) + "1=1;take hour", 149, 3);
        ruleFault("take 1+1+1 if " + Due.times("1=1 or ", 18) + "1=1;take hou", 149, 0);
        ruleFault("take 1+1+1 if " + Due.times("1=1 or ", 18) + "1=1;take 123456", 149, 1);
    }

    private static void sixRules() {
        StampDuchy d = new StampDuchy();
        for (int i = 0; i < 6; i++) {
            DUE.is("rule " + i, Due.rule(d, "take " + i), i);
        }
        Due.tape(d, "take 1");
        DUE.is("a seventh rule", d.rule(), -1);
        DUE.is("the tape stays", d.count(14), 6);
        d.end(3);
        DUE.is("a seventh that has a fault", d.rule(), -1);
        DUE.is("rules", d.count(5), 6);
    }

    /** Who has work 1 behind hour 0 by a rule. */
    private static void handsTo(String rule, int person) {
        StampDuchy d = Due.ruled(rule, HANDING);
        DUE.is(rule + " is in force", d.count(6), 0);
        DUE.is(rule + " ahead", d.ahead(1, 1, 0), person);
        DUE.is(rule + " stops", d.hour(), person == -1 ? 1 : 0);
        DUE.is(rule + " holder", d.work(1, 1), person);
        DUE.is(rule + " stopped", d.work(1, 3), person == -1 ? 1 : 0);
    }

    private static void ruleWords() {
        handsTo("take 1 if person=1", 1);
        handsTo("take 1 if person=2", 2);
        handsTo("take 1 if person=0", -1);
        handsTo("take 1 if work=1", 1);
        handsTo("take 1 if kind=1", 1);
        handsTo("take 1 if worth=7", 1);
        handsTo("take 1 if price=5", 1);
        handsTo("take 1 if purse=30", 1);
        handsTo("take 1 if purse=20", 2);
        handsTo("take 1 if holds=0", 1);
        handsTo("take 1 if holds=1", 2);
        handsTo("take 1 if hands=2", 1);
        handsTo("take 1 if hands=3", 2);
        handsTo("take 1 if hour=0", 1);
        handsTo("take 1 if hour=1", -1);
        handsTo("take 1 if awake=5", 1);
        handsTo("take 1 if awake=24", 2);
        handsTo("take 1 if sneaked=0 and stopped=0", 1);
        handsTo("take awake", 2);
        handsTo("take purse", 1);
        StampDuchy d = Due.ruled("take 9 if sneaked=1;take 8 if stopped=1 and hour=24;take 0", HANDING);
        DUE.is("it stops", d.hour(), 1);
        DUE.is("sneaked again", d.sneak(1, 0), 2);
        Due.pass(d, 22);
        DUE.is("hour 23", d.count(7), 23);
        DUE.is("ahead sneaked", d.ahead(1, 2, 0), 1);
        d.drop(1);
        d.begin(1, 0);
        DUE.is("ahead stopped", d.ahead(1, 2, 0), 1);
        DUE.is("till person 1 is asleep", d.ahead(1, 6, 0), 1);
        DUE.is("too late for the rule", d.ahead(1, 7, 0), -1);
    }

    private static void ruleSums() {
        handsTo("take 1 if 1+2*3=7 and 2*3+1=7 and 7-3-2=2 and 9-2*3+1=4", 1);
        handsTo("take 1 if 7/2=3 and 7%4=3 and 12/3*2=8 and 2*7%4=2 and 8/2/2=2", 1);
        handsTo("take 1 if 5/0=0 and 5%0=0 and 0/5=0", 1);
        handsTo("take 1 if 2-3<0 and 2-3=0-1", 1);
        handsTo("take 1 if 65536*65536*65536*65536=0", 1);
        handsTo("take 1 if 65536*65536*65536*32768<0", 1);
        handsTo("take 1 if 65536*65536*65536*32768-1>0", 1);
        handsTo("take 1 if 77777*77777*77777*77777%7=0-4", 1);
        handsTo("take 1 if 77777*77777*77777*77777/99999/99999/1000=0-29992", 1);
        handsTo("take 65536*65536*65536*32768", -1);
        handsTo("take 65536*65536*65536*32768-person", 1);
        handsTo("take 00012 if 00012=12", 1);
    }

    private static void ruleTests() {
        handsTo("take 1 if 1<2 and 2<=2 and 2=2 and 2>=2 and 3>2", 1);
        handsTo("take 1 if 2<2", -1);
        handsTo("take 1 if 3<=2", -1);
        handsTo("take 1 if 3=2", -1);
        handsTo("take 1 if 1>=2", -1);
        handsTo("take 1 if 2>2", -1);
        handsTo("take 1 if 1=1 or 1=1 and 1=2", 1);
        handsTo("take 1 if [1=1 or 1=1]and 1=2", -1);
        handsTo("take 1 if 1=2 and 1=1 or 1=1", 1);
        handsTo("take 1 if not 1=1 or 1=1", 1);
        handsTo("take 1 if not[1=1 or 1=1]", -1);
        handsTo("take 1 if not 1=2 and 1=2", -1);
        handsTo("take 1 if not not 1=1", 1);
        handsTo("take 1 if not[not[1=2]]", -1);
        handsTo("take 1 if[[person=2]]", 2);
        handsTo("take 1 if 1=2 or[1=1 and not[1=2 or 1=2]]", 1);
    }

    private static void ruleChoice() {
        handsTo("take 1", 1);
        handsTo("take person", 2);
        handsTo("take 3-person", 1);
        handsTo("take 2-person", 1);
        handsTo("take 1-person", -1);
        handsTo("take 0", -1);
        handsTo("take 0 if person=1;take 1", 2);
        handsTo("take 5 if person=1;take 5 if person=2", 1);
        handsTo("take 5 if person=1;take 6 if person=2", 2);
        handsTo("take 5 if person=1;take 6 if person=2;take 99", 2);
        handsTo("take 5 if person=3;take 6-person if person=4", -1);
        // Hands that are full, and sleepers, are not asked.
        StampDuchy d = Due.ruled("take 9-person", "duchy 0 0;kind 0 1;person 0 0 1 3;person 0 0 2 3;person 0 5 1 1;"
            + "person 0 0 0 3;work 0;work 0;held 0 0;held 1 0");
        DUE.is("stops", d.hour(), 0);
        DUE.is("the first goes to who is free", d.work(0, 1), 2);
        DUE.is("the second to the next", d.work(1, 1), 3);
        DUE.is("who is awake", d.count(10), 13);
        // Whoever took a work holds it when the next one is handed on.
        d = Due.ruled("take 5-holds*2+person", "duchy 0 0;kind 0 1;person 0 0 1 2;person 0 5 1 3;person 0 5 1 3;"
            + "work 0;work 0;held 0 0;held 1 0");
        d.hour();
        DUE.is("first", d.work(0, 1), 2);
        DUE.is("second", d.work(1, 1), 1);
    }

    private static void forceARule() {
        StampDuchy d = new StampDuchy();
        DUE.is("force none", d.force(-1), -1);
        DUE.is("force 0 of none", d.force(0), -2);
        DUE.is("force -2", d.force(-2), -2);
        Due.rule(d, "take person");
        Due.rule(d, "take 9-person");
        DUE.is("not in force by being told", d.count(6), -1);
        DUE.is("force 1", d.force(1), -1);
        DUE.is("force 0", d.force(0), 1);
        DUE.is("force 2 of two", d.force(2), -2);
        DUE.is("it stays", d.count(6), 0);
        Due.duchy(d, HANDING);
        DUE.is("by rule 0", d.ahead(1, 1, 0), 2);
        d.force(1);
        DUE.is("by rule 1", d.ahead(1, 1, 0), 1);
        DUE.is("no more", d.force(-1), 1);
        DUE.is("in force", d.count(6), -1);
        DUE.is("by none", d.ahead(1, 1, 0), 1);
    }
}
