/** Terms, part III, as far as it tells of what is asked about works, people and prices. */
final class AskTerms {
    private static final int NONE = StampDuchy.NONE;

    private final Edges e;

    AskTerms(Edges e) {
        this.e = e;
    }

    void all() {
        nothingChanges();
        beyond999();
        ahead();
        stops();
        stopsIn200();
        saves();
        savesIn200();
        relayHours();
        relayAsksOnlySleep();
        relayHandings();
        relayRows();
        mostHours();
        mostAtLeast();
        chainsBegin();
        chainsRow();
        chainsCost();
        tariffs();
        tariffsOfSeveral();
        helpHours();
        helpOfSeveral();
        values();
        watches();
    }

    private void nothingChanges() {
        e.term("III", "(By what is asked nothing changes;");
        StampDuchy d = Due.ruled("take awake", Due.FULL);
        Due.rule(d, "take 1");
        d.seed(99);
        d.log(2, 0, 1);
        Due.pass(d, 2);
        d.feed(1, 2, 3, 4, 5);
        String before = Edges.sight(d);
        d.ahead(5, 100, 0);
        d.stops(5);
        d.save(3, 4);
        d.relay(5, 48, 47);
        d.most(48, 1);
        d.chains(7);
        d.tariff(4, 1);
        d.help(48, 1);
        d.value(5, 48);
        d.watch(23);
        d.ruled(1);
        d.look(60, 1);
        d.nights(10, 60, 50, 1);
        e.unchanged(d, before);
        e.is("the log is as it was", d.ruled(0), 3);
        e.is("and what can be undone", d.undo(), 1);
    }

    private void beyond999() {
        e.term("III", "HOURS go on by the RULE IN FORCE, beyond 999, too.)");
        // The rest of 999 by 24 is 15. Person 0 sleeps in 15, 1 in 16: the rule ends in hour 1000.
        StampDuchy d = Due.ruled("take 1 if hour<1000", "duchy 0 0;kind 0 1;kind 99 0;person 0 15 1 1;person 0 16 1 1;"
            + "work 0;held 0 0");
        Due.pass(d, 999);
        e.is("999 is the last", d.hour(), NONE);
        e.is("stops in 1000", d.stops(0), 1000);
        e.is("who behind 999", d.ahead(0, 1, 0), 1);
        e.is("who behind 1000", d.ahead(0, 2, 0), NONE);
        e.is("purse 1 has an hour of each day, and 999", d.ahead(1, 1, 1), 42);
        e.is("and no more", d.ahead(1, 100, 1), 42);
        e.is("handings in 999 and 1000", d.relay(0, 2, NONE), 2);
        e.is("most in 999", d.most(2, 1), 999);
        e.is("worth of two hours", d.value(0, 2), 1);
        e.is("nights", d.nights(1, 2, 0, 0), 1);
        e.is("one stops, whoever is helped", d.help(2, 1), 1);
        d = Due.ruled("take 1 if hour=1000;take 0", "duchy 0 0;kind 0 1;kind 1 0;person 0 16 1 1;person 0 0 0 1;work"
            + " 0");
        Due.pass(d, 999);
        d.begin(0, 0);
        e.is("at the begin of 1001", d.save(1, 1), 1001);
    }

    private void ahead() {
        e.term("III", "AHEAD n HOURS (0 to 100): who holds a WORK; the PURSE of a PERSON; the CHEST.");
        StampDuchy d = Due.told("duchy 3 5;kind 0 2;person 1 4 1 1;work 0");
        d.sneak(0, 0);
        int[] hours = {0, 1, 2, 4, 5, 99, 100};
        int[] purses = {1, 0, 2, 6, 6, 6, 6};
        for (int i = 0; i < hours.length; i++) {
            e.is("who in " + hours[i], d.ahead(0, hours[i], 0), hours[i] < 5 ? 0 : NONE);
            e.is("purse in " + hours[i], d.ahead(0, hours[i], 1), purses[i]);
            e.is("chest in " + hours[i], d.ahead(0, hours[i], 2), hours[i] < 1 ? 5 : 8);
        }
        d = Due.told("duchy 0 0;kind 0 1;person 0 0 0 1;work 0;held 0 0");
        Due.pass(d, 7);
        e.is("99 more", d.ahead(0, 99, 1), 106);
        e.is("100 more", d.ahead(0, 100, 1), 107);
        e.is("not -1", d.ahead(0, -1, 1), -2);
        e.is("not 101", d.ahead(0, 101, 1), -2);
    }

    private void stops() {
        e.term("III", "STOPS of a WORK that goes: the HOUR in which it does first,");
        String text = "duchy 0 0;kind 0 0;person 0 5 1 1;person 0 6 1 1;person 0 7 1 2;work 0;work 0;held 0 0;held 1 2";
        StampDuchy d = Due.ruled("take 1 if work=0;take 0", text);
        e.is("it is handed on in 5, 6 and 7", d.stops(0), -2);
        e.is("the other one is not", d.stops(1), 7);
        Due.pass(d, 7);
        e.is("in this hour", d.stops(1), 7);
        d.hour();
        e.is("it has stopped", d.stops(1), NONE);
        d.begin(1, 2);
        e.is("told by the hour of all", d.stops(1), 31);
    }

    private void stopsIn200() {
        e.term("III", "in 200 HOURS.");
        // The rests of 199 and 200 by 24 are 7 and 8.
        StampDuchy d = Due.ruled("take 1 if hour<199", "duchy 0 0;kind 0 0;person 0 7 1 1;person 0 8 1 1;work 0;held"
            + " 0 0");
        e.is("in the 200th", d.stops(0), 199);
        d = Due.ruled("take 1 if hour<200", "duchy 0 0;kind 0 0;person 0 8 1 1;person 0 9 1 1;work 0;held 0 0");
        e.is("in the 201st", d.stops(0), -2);
        d.hour();
        e.is("which is the 200th an hour later", d.stops(0), 200);
    }

    private void saves() {
        e.term("III", "SAVE of a PERSON for a KIND: the HOUR, this one the first,");
        StampDuchy d = Due.told("duchy 0 0;kind 9 3;kind 10 0;kind 0 0;kind 11 0;person 7 0 0 1;person 0 0 0 1;work 0;"
            + "held 0 0");
        Due.pass(d, 1);
        e.is("10 are there now", d.save(0, 1), 1);
        e.is("9 too", d.save(0, 0), 1);
        e.is("nothing is always there", d.save(1, 2), 1);
        e.is("11 are not", d.save(0, 3), 2);
        e.is("who gets nothing saves nothing", d.save(1, 0), -2);
    }

    private void savesIn200() {
        e.term("III", "of 200, at whose begin they have its PRICE.");
        // Person 0 gets the work in hour 198, the rest of which by 24 is 6, or in 199.
        String late = "duchy 0 0;kind 1 1;person 0 0 0 1;person 0 6 1 1;person 0 7 1 1;work 0;held 0 1";
        StampDuchy d = Due.ruled("take 9 if person=0 and hour>197;take 1 if person>0", late);
        e.is("at the begin of the 200th", d.save(0, 0), 199);
        d = Due.ruled("take 9 if person=0 and hour>198;take 1 if person>0", late);
        e.is("at its end", d.save(0, 0), -2);
        d.hour();
        e.is("which is the begin of the 200th an hour later", d.save(0, 0), 200);
    }

    private void relayHours() {
        e.term("III", "RELAY of a WORK that goes for n HOURS (1 to 48;");
        StampDuchy d = Due.told("duchy 0 0;kind 0 0;person 0 1 1 1;person 0 0 0 1;work 0;held 0 0");
        e.is("1 hour", d.relay(0, 1, NONE), 0);
        e.is("2 hours", d.relay(0, 2, NONE), 1);
        e.is("48 hours", d.relay(0, 48, NONE), 1);
        e.is("the last of 48", d.relay(0, 48, 47), 1);
        e.is("not 0 hours", d.relay(0, 0, NONE), -3);
        e.is("not 49 hours", d.relay(0, 49, NONE), -3);
    }

    private void relayAsksOnlySleep() {
        e.term("III", "other WORKS are not asked, nor HANDS; a PERSON who is asleep can't hold it in an HOUR):");
        StampDuchy d = Due.ruled("take 0", "duchy 0 0;kind 0 0;person 0 2 1 1;person 0 0 2 1;work 0;work 0;held 0 0;"
            + "held 1 1");
        e.is("to full hands, whatever the rule", d.relay(0, 3, NONE), 1);
        for (int k = 0; k < 3; k++) {
            e.is("who in " + k, d.relay(0, 3, k), k < 2 ? 0 : 1);
        }
        d = Due.told("duchy 0 0;kind 0 0;person 0 2 1 1;person 0 2 22 1;work 0;held 0 0");
        e.is("till both sleep", d.relay(0, 2, NONE), 0);
        e.is("both sleep", d.relay(0, 3, NONE), -2);
        e.is("who, of none", d.relay(0, 3, 0), -2);
        d = Due.told("duchy 0 0;kind 0 0;person 0 0 24 1;work 0;held 0 0");
        e.is("the only one sleeps", d.relay(0, 1, NONE), -2);
    }

    private void relayHandings() {
        e.term("III", "the fewest HANDINGS, so that in each of them somebody awake holds it (at first its holder"
            + " does; a HANDING is between two HOURS, or ahead of the first one): how many;");
        // Each is awake for six hours: 0 from 0 on, 1 from 6 on, 2 from 12 on, 3 from 18 on.
        String shifts = "duchy 0 0;kind 0 0;person 0 6 18 1;person 0 12 18 1;person 0 18 18 1;person 0 0 18 1;work"
            + " 0;held 0 ";
        StampDuchy d = Due.told(shifts + 3);
        e.is("its holder sleeps now", d.relay(0, 1, NONE), 1);
        e.is("6 hours", d.relay(0, 6, NONE), 1);
        e.is("7 hours", d.relay(0, 7, NONE), 2);
        e.is("48 hours", d.relay(0, 48, NONE), 8);
        for (int k = 0; k < 48; k++) {
            e.is("who in " + k, d.relay(0, 48, k), k / 6 % 4);
        }
        d = Due.told(shifts + 0);
        e.is("its holder is awake", d.relay(0, 6, NONE), 0);
        e.is("48 of it", d.relay(0, 48, NONE), 7);
        // The fewest, not the nearest: 1 is awake sooner, but 2 for longer.
        d = Due.told("duchy 0 0;kind 0 0;person 0 1 23 1;person 0 3 1 1;person 0 9 1 1;work 0;held 0 0");
        e.is("one will do", d.relay(0, 9, NONE), 1);
        e.is("the one who stays awake", d.relay(0, 9, 1), 2);
    }

    private void relayRows() {
        e.term("III", "who holds it in the k-th HOUR by the first such row (by HOURS, PEOPLE by numbers).");
        // One handing: to a lower number as soon as can be, to a higher one as late.
        String text = "duchy 0 0;kind 0 0;person 0 2 1 1;person 0 0 0 1;work 0;held 0 0";
        StampDuchy d = Due.told(text);
        int[] late = {0, 0, 1, 1};
        for (int k = 0; k < 4; k++) {
            e.is("late " + k, d.relay(0, 4, k), late[k]);
        }
        d = Due.told("duchy 0 0;kind 0 0;person 0 0 0 1;person 0 2 1 1;work 0;held 0 1");
        for (int k = 0; k < 4; k++) {
            e.is("soon " + k, d.relay(0, 4, k), 0);
        }
        d = Due.told("duchy 0 0;kind 0 0;person 0 0 1 1;person 0 2 1 1;work 0;held 0 1");
        int[] soon = {1, 0, 0, 0};
        for (int k = 0; k < 4; k++) {
            e.is("as soon as awake " + k, d.relay(0, 4, k), soon[k]);
        }
        d = Due.told("duchy 0 0;kind 0 0;person 0 9 1 1;person 0 9 1 1;person 0 0 1 1;work 0;held 0 2");
        e.is("of two alike the first", d.relay(0, 4, 0), 0);
        e.is("so many hours there are not", d.relay(0, 4, 4), -2);
        e.is("behind a relay that is told", d.relay(0, 3, 3), -2);
    }

    private void mostHours() {
        e.term("III", "MOST in n HOURS (1 to 48):");
        StampDuchy d = Due.told("duchy 0 0;person 0 23 1 2;person 0 0 0 1");
        e.is("1 hour", d.most(1, 0), 3);
        e.is("23 hours", d.most(23, 0), 3);
        e.is("24 hours", d.most(24, 0), 1);
        e.is("not 0 hours", d.most(0, 0), NONE);
        e.is("not 49 hours", d.most(49, 0), NONE);
        Due.pass(d, 24);
        d.undo();
        e.is("this hour", d.most(1, 0), 1);
        d = Due.told("duchy 0 0;person 0 23 1 1");
        e.is("48 hours from 0 on", d.most(48, 1), 23);
    }

    private void mostAtLeast() {
        e.term("III", "how many WORKS all PEOPLE together could hold in each of them at least (HANDS of those"
            + " awake); the first HOUR in which it is so few.");
        StampDuchy d = Due.told("duchy 0 0;person 0 0 0 3;person 0 0 0 3;person 0 0 0 3;person 0 0 0 3");
        e.is("twelve hands", d.most(48, 0), 12);
        e.is("from the first hour on", d.most(48, 1), 0);
        Due.duchy(d, "duchy 0 0;person 0 5 2 2");
        e.is("of one who sleeps", d.most(48, 0), 0);
        e.is("in 5, not in 6", d.most(48, 1), 5);
        e.is("two hands, and none of those that were", d.most(5, 0), 2);
        Due.pass(d, 6);
        e.is("the hour of all", d.most(48, 1), 6);
        d.hour();
        e.is("the next day's", d.most(48, 1), 29);
        Due.duchy(d, "duchy 0 0");
        e.is("of nobody", d.most(1, 0), 0);
        e.is("when", d.most(48, 1), 0);
        // What is held does not count, only hands.
        e.is("full hands", Due.told(Due.FULL).most(1, 0), 7);
        e.is("of four people", Due.told(Due.FULL).most(48, 0), 7);
    }

    private void chainsAre(String text, int... due) {
        StampDuchy d = Due.told(text);
        for (int what = 0; what < due.length; what++) {
            e.is("chains " + what + " of " + text, d.chains(what), due[what]);
        }
    }

    private void chainsBegin() {
        e.term("III", "CHAINS: each WORK goes on from one it can be AFTER, or begins; no two go on from the same"
            + " one, none, one by one, from itself: the fewest that begin;");
        String two = "duchy 0 0;kind 1 0;work 0;work 0";
        String three = two + ";work 0";
        chainsAre("duchy 0 0", 0);
        chainsAre("duchy 0 0;kind 1 0;work 0", 1, 1, NONE);
        chainsAre(two, 2);
        chainsAre(two + ";after 0 1", 1, 1, 1, NONE);
        // A ring of two, of three and of six is cut once.
        chainsAre(two + ";after 0 1;after 1 0", 1);
        chainsAre(three + ";after 0 1;after 1 2;after 2 0", 1);
        String six = three + ";work 0;work 0;work 0";
        chainsAre(six + ";after 0 1;after 1 2;after 2 3;after 3 4;after 4 5;after 5 0", 1, 1, NONE, 2, 3, 4, 5, 0);
        // Two rings apart are cut twice.
        chainsAre(six + ";after 0 1;after 1 0;after 2 3;after 3 2;after 4 5;after 5 4", 3, 3, NONE, 0, NONE, 2, NONE,
            4);
        // Two can't go on from the same one.
        chainsAre(three + ";after 1 0;after 2 0", 2);
        chainsAre(six + ";after 1 0;after 2 0;after 3 0;after 4 0;after 5 0", 5);
        chainsAre(six, 6, 6, NONE, NONE, NONE, NONE, NONE, NONE);
    }

    private void chainsRow() {
        e.term("III", "of several rows of what each goes on from (NONE ahead of WORK 0, the first WORK first) the"
            + " first;");
        String three = "duchy 0 0;kind 1 0;kind 10 0;kind 90 0;work 2;work 1;work 0";
        chainsAre(three + ";after 0 1;after 1 0", 2, 91, NONE, 0, NONE);
        chainsAre(three + ";after 1 0;after 2 0", 2, 100, NONE, NONE, 0);
        chainsAre(three + ";after 0 1;after 0 2", 2, 11, 1, NONE, NONE);
        chainsAre(three + ";after 0 2;after 0 1;after 1 2;after 1 0;after 2 1;after 2 0", 1, 90, NONE, 0, 1);
        // Fewest go ahead of the first row.
        chainsAre(three + ";after 0 2;after 1 2;after 2 1", 1, 10, 2, NONE, 1);
    }

    private void chainsCost() {
        e.term("III", "what PRICES those that begin cost.");
        chainsAre("duchy 0 0;kind 99 0" + Due.times(";work 0", 6), 6, 594);
        chainsAre("duchy 0 0;kind 0 0" + Due.times(";work 0", 6), 6, 0);
        chainsAre("duchy 0 0;kind 99 0;kind 7 0;work 0;work 1;after 0 1", 1, 7);
        StampDuchy d = Due.told("duchy 0 0;kind 9 0;person 0 0 0 1;work 0;held 0 0");
        e.is("of one that goes too", d.chains(1), 9);
    }

    private void tariffIs(String text, int price, int income) {
        StampDuchy d = Due.told(text);
        e.is("price by " + text, d.tariff(0, 0), price);
        e.is("income by " + text, d.tariff(0, 1), income);
    }

    private void tariffs() {
        e.term("III", "TARIFF of a KIND: the PRICE, 0 to 99, that would bring most, if each PERSON who has it now"
            + " bought one stamp, as many together as WORKS of that KIND lie now, at most:");
        String one = "duchy 0 0;kind 50 0;kind 50 0;work 0;person ";
        tariffIs(one + "99 0 0 1", 99, 99);
        tariffIs(one + "98 0 0 1", 98, 98);
        tariffIs(one + "100 0 0 1", 99, 99);
        tariffIs(one + "999 0 24 1", 99, 99);
        tariffIs(one + "1 0 0 1", 1, 1);
        tariffIs(one + "99 0 0 1;work 0;person 99 0 0 1;person 99 0 0 1", 99, 198);
        tariffIs("duchy 0 0;kind 50 0" + Due.times(";work 0", 6) + Due.times(";person 99 0 0 1", 4), 99, 396);
        tariffIs("duchy 0 0;kind 50 0;kind 50 0;work 1;work 0;work 0;person 60 0 0 2;person 20 0 0 1;held 1 0", 60, 60);
        tariffIs("duchy 0 0;kind 50 0;kind 50 0;work 1;work 0;work 0;person 30 0 0 2;person 20 0 0 1", 20, 40);
    }

    private void tariffsOfSeveral() {
        e.term("III", "of several the least; how much that is.");
        String two = "duchy 0 0;kind 50 0;work 0;work 0;person ";
        tariffIs(two + "10 0 0 1;person 5 0 0 1", 5, 10);
        tariffIs(two + "11 0 0 1;person 5 0 0 1", 11, 11);
        tariffIs(two + "9 0 0 1;person 5 0 0 1", 5, 10);
        tariffIs(two + "0 0 0 1;person 0 0 0 1", 0, 0);
        tariffIs("duchy 0 0;kind 50 0;work 0", 0, 0);
        tariffIs("duchy 0 0;kind 50 0;person 99 0 0 1", 0, 0);
        tariffIs("duchy 0 0;kind 50 0;person 99 0 0 1;work 0;held 0 0", 0, 0);
    }

    private void helpIs(StampDuchy d, int n, int who, int often) {
        e.is("who in " + n, d.help(n, 0), who);
        e.is("how often in " + n, d.help(n, 1), often);
    }

    private void helpHours() {
        e.term("III", "HELP for n HOURS (1 to 48): the PERSON with one HAND more, or nobody, so that fewest WORKS"
            + " STOP in them (as often as they do);");
        StampDuchy d = Due.told("duchy 0 0;kind 0 0;person 0 0 1 2;person 0 0 0 1;work 0;work 0;held 0 0;held 1 0");
        helpIs(d, 1, 1, 0);
        e.is("not 0", d.help(0, 0), -2);
        e.is("not 49", d.help(49, 0), -2);
        // In hour 47 only a second hand will do; by then 0 and 1 hand on to each other.
        d = Due.ruled("take 1 if hour<47;take hands-1", "duchy 0 0;kind 0 0;person 0 23 1 1;person 0 22 1 1;work 0;"
            + "held 0 0");
        helpIs(d, 47, NONE, 0);
        helpIs(d, 48, 1, 0);
        // One hand is not enough for three works.
        d = Due.told("duchy 0 0;kind 0 0;person 0 0 1 3;person 0 0 0 1;work 0;work 0;work 0;held 0 0;held 1 0;held 2"
            + " 0");
        helpIs(d, 48, 1, 1);
        e.is("without it two", d.nights(1, 48, 0, 0), 2);
    }

    private void helpOfSeveral() {
        e.term("III", "of several nobody, then the least; how often.");
        StampDuchy d = Due.told(Due.FULL);
        helpIs(d, 1, NONE, 0);
        d = Due.told("duchy 0 0;kind 0 0;person 0 0 1 2;person 0 0 1 1;person 0 0 0 1;person 0 0 0 1;work 0;work 0;"
            + "work 0;work 0;held 0 0;held 1 0;held 2 2;held 3 3");
        helpIs(d, 1, 2, 1);
        // Only the last can help.
        d = Due.told("duchy 0 0;kind 0 0;person 0 0 1 1;person 0 0 1 1;person 0 0 1 1;person 0 0 0 1;work 0;work 0;"
            + "held 0 0;held 1 3");
        helpIs(d, 1, 3, 0);
        // Nobody can.
        d = Due.told("duchy 0 0;kind 0 0;person 0 0 24 1;work 0;held 0 0");
        helpIs(d, 48, NONE, 1);
        helpIs(Due.told("duchy 0 0"), 48, NONE, 0);
    }

    private void values() {
        e.term("III", "VALUE of a WORK that goes for n HOURS (1 to 48): by how much more all PURSES are then, than"
            + " if it was DROPPED now.");
        StampDuchy d = Due.told("duchy 4 0;kind 0 9;kind 0 0;person 0 0 0 3;person 0 0 0 1;work 0;work 1;work 0;held"
            + " 0 0;held 1 0");
        e.is("1 hour", d.value(0, 1), 9);
        e.is("48 hours", d.value(0, 48), 432);
        e.is("worth nothing", d.value(1, 48), 0);
        d.sneak(2, 1);
        e.is("less the fine", d.value(2, 1), 5);
        e.is("less the fine once", d.value(2, 48), 428);
        // In the way of a better one, for which there would be a hand.
        d = Due.told("duchy 0 0;kind 0 1;kind 0 9;person 0 0 24 2;person 0 0 0 1;work 0;work 1;held 0 0;held 1 0");
        e.is("less than nothing", d.value(0, 48), -384);
        e.is("it would stop anyhow", d.value(1, 48), 0);
        // A full purse gets no more by it.
        d = Due.told("duchy 0 0;kind 0 9;person 999 0 0 3;work 0;work 0;work 0;held 0 0;held 1 0;held 2 0");
        Due.pass(d, 333);
        e.is("9999 with it, 9990 and 18 without", d.value(0, 1), 0);
        d.drop(1);
        e.is("9999 with it and 9999 without", d.value(0, 1), 0);
        d.drop(2);
        e.is("9999 with it and 9990 without", d.value(0, 48), 9);
    }

    private void watches() {
        e.term("III", "WATCH: the HOURS of the day, 0 to 23, in the order in which a sower had best come, and a"
            + " clerk who knows so: by how many are awake in them, fewest first, of as many the least HOUR first:"
            + " the k-th of these (0 and on).");
        String[] alike = {"duchy 0 0", "duchy 0 0;person 0 0 0 1", "duchy 0 0" + Due.times(";person 0 0 24 1", 4)};
        for (String text : alike) {
            StampDuchy d = Due.told(text);
            Due.pass(d, 30);
            for (int k = 0; k < 24; k++) {
                e.is("all alike " + k, d.watch(k), k);
            }
        }
        // Awake: one in 0 and 1, two in 22 and 23, four else.
        StampDuchy d = Due.told("duchy 0 0;person 0 22 4 1;person 0 22 1 1;person 0 23 3 1;person 0 0 2 1");
        int[] order = {0, 1, 22, 23, 2, 3, 4, 5, 6, 7, 8, 9, 10, 11, 12, 13, 14, 15, 16, 17, 18, 19, 20, 21};
        for (int k = 0; k < 24; k++) {
            e.is("watch " + k, d.watch(k), order[k]);
        }
        d = Due.told("duchy 0 0;person 0 23 1 1;person 0 23 1 1;person 0 5 1 1;person 0 23 1 1");
        e.is("the last hour first", d.watch(0), 23);
        e.is("then 5", d.watch(1), 5);
        e.is("the last", d.watch(23), 22);
        d = Due.told("duchy 0 0;person 0 9 1 1;person 0 9 1 1;person 0 9 1 1;person 0 9 1 1");
        e.is("all asleep", d.watch(0), 9);
        e.is("none asleep", d.watch(1), 0);
    }
}
