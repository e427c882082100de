/** Promises 16 to 28 and 30 by hand: what is asked, and that nothing changes by it. */
public final class AskTest {
    /** Each has one hand; 0 sleeps from 0 on for 8 hours, 1 from 6 on for 10, 2 from 12 on for 6. */
    private static final String SHIFTS = "duchy 2 0;kind 6 2;person 3 0 8 1;person 0 6 10 1;person 0 12 6 1;"
        + "work 0;held 0 0";

    private static final Due DUE = new Due();

    public static void main(String[] args) {
        aheads();
        stopsAhead();
        saves();
        relays();
        relayRows();
        mosts();
        chainRows();
        chainEdges();
        tariffs();
        helps();
        values();
        watches();
        logs();
        ruledByLogs();
        looks();
        nightsDrawn();
        nightsByHand();
        nothingChanges();
        DUE.finish();
    }

    private static void aheads() {
        StampDuchy d = Due.told(Due.TOWN);
        DUE.is("ahead 0", d.ahead(0, 0, 0), 0);
        DUE.is("ahead 1", d.ahead(0, 1, 0), 2);
        DUE.is("one that lies", d.ahead(2, 50, 0), -1);
        DUE.is("work 1 in hour 6", d.ahead(1, 6, 0), 1);
        DUE.is("work 1 behind hour 6", d.ahead(1, 7, 0), 0);
        DUE.is("work 1 behind hour 22", d.ahead(1, 23, 0), 1);
        DUE.is("purse 2 in 100 hours", d.ahead(2, 100, 1), 300);
        DUE.is("purse 1 of 0 to 5", d.ahead(1, 22, 1), 15);
        DUE.is("chest", d.ahead(77, 100, 2), 100);
        DUE.is("101 hours", d.ahead(0, 101, 2), -2);
        DUE.is("-1 hours", d.ahead(0, -1, 2), -2);
        DUE.is("no work", d.ahead(4, 1, 0), -2);
        DUE.is("no work below", d.ahead(-1, 1, 0), -2);
        DUE.is("nobody", d.ahead(3, 1, 1), -2);
        DUE.is("what 3", d.ahead(0, 1, 3), -2);
        DUE.is("what -1", d.ahead(0, 1, -1), -2);
        d.sneak(2, 2);
        DUE.is("a fine ahead", d.ahead(0, 1, 2), 106);
        DUE.is("chest now", d.count(1), 100);
        DUE.is("without works and people", Due.told("duchy 1 8").ahead(0, 100, 2), 8);
    }

    private static void stopsAhead() {
        StampDuchy d = Due.told(SHIFTS);
        // 1 has it from 0 on, 2 from 6 on; at 12 it goes to 0 till midnight, and so on.
        DUE.is("never in 200", d.stops(0), -2);
        DUE.is("no work", d.stops(1), -1);
        DUE.is("no work below", d.stops(-1), -1);
        d.drop(0);
        DUE.is("one that lies", d.stops(0), -1);
        d = Due.told("duchy 0 0;kind 0 1;person 0 7 2 1;person 0 8 1 1;work 0;held 0 1");
        DUE.is("when both sleep", d.stops(0), 8);
        Due.pass(d, 5);
        DUE.is("told by the hour of all", d.stops(0), 8);
        DUE.is("ahead of it", d.ahead(0, 3, 0), 1);
        DUE.is("behind it", d.ahead(0, 4, 0), -1);
        d = Due.ruled("take 1 if awake=3", "duchy 0 0;kind 0 1;person 0 20 1 1;person 0 23 1 1;work 0;held 0 0");
        DUE.is("awake in hour 20, and not in 23", d.stops(0), 23);
        // A rule may let it stop only in hour 199, or in 200: 200 hours are looked at.
        d = Due.ruled("take 1 if hour<199", "duchy 0 0;kind 0 0;person 0 7 1 1;person 0 8 1 1;work 0;held 0 0");
        DUE.is("in hour 199", d.stops(0), 199);
        d = Due.ruled("take 1 if hour<200", "duchy 0 0;kind 0 0;person 0 8 1 1;person 0 9 1 1;work 0;held 0 0");
        DUE.is("not in 200 hours", d.stops(0), -2);
        d.hour();
        DUE.is("in hour 200", d.stops(0), 200);
    }

    private static void saves() {
        StampDuchy d = Due.told("duchy 0 0;kind 10 3;kind 99 0;kind 4 0;person 4 12 1 1;person 0 0 0 1;"
            + "work 0;held 0 0");
        DUE.is("at once", d.save(0, 2), 0);
        DUE.is("4, 7, 10", d.save(0, 0), 2);
        DUE.is("3 in each of the hours from 12 on", d.save(1, 0), 16);
        DUE.is("0 gets no more than 40", d.save(0, 1), -2);
        DUE.is("nobody", d.save(2, 0), -1);
        DUE.is("nobody below", d.save(-1, 0), -1);
        DUE.is("no kind", d.save(0, 3), -1);
        DUE.is("no kind below", d.save(0, -1), -1);
        Due.pass(d, 1);
        DUE.is("by the hour of all", d.save(0, 0), 2);
        d = Due.told("duchy 0 0;kind 99 1;kind 98 0;kind 97 0;person 0 0 24 1;person 0 0 0 1;work 0;held 0 1");
        Due.pass(d, 5);
        DUE.is("in hour 99", d.save(1, 0), 99);
        d = Due.told("duchy 0 0;kind 99 1;kind 90 0;person 0 3 1 1;person 0 3 0 1;work 0;held 0 0");
        DUE.is("never", d.save(0, 0), -2);
        // A day brings 1, in its hour 2.
        d = Due.ruled("take 2-person if hour%24=2;take person", "duchy 0 0;kind 9 1;kind 8 0;"
            + "person 0 3 23 1;person 0 2 1 1;work 0;held 0 1");
        DUE.is("8 by then", d.save(0, 1), 171);
        DUE.is("9 by hour 195", d.save(0, 0), 195);
        Due.pass(d, 3);
        DUE.is("purse 0 of hour 2", d.person(0, 0), 1);
        String late = "duchy 0 0;kind 1 1;person 0 0 0 1;person 0 6 1 1;person 0 7 1 1;work 0;held 0 1";
        d = Due.ruled("take 9 if person=0 and hour>197;take 1 if person>0", late);
        DUE.is("in the last of 200", d.save(0, 0), 199);
        d = Due.ruled("take 9 if person=0 and hour>198;take 1 if person>0", late);
        DUE.is("one hour late", d.save(0, 0), -2);
        d.hour();
        DUE.is("from hour 1 on", d.save(0, 0), 200);
    }

    private static void relays() {
        StampDuchy d = Due.told(SHIFTS);
        DUE.is("no work", d.relay(1, 1, -1), -3);
        DUE.is("no work below", d.relay(-1, 1, -1), -3);
        DUE.is("0 hours", d.relay(0, 0, -1), -3);
        DUE.is("49 hours", d.relay(0, 49, -1), -3);
        DUE.is("what -2", d.relay(0, 1, -2), -3);
        DUE.is("what 48", d.relay(0, 48, 48), -3);
        DUE.is("what 1 of 1", d.relay(0, 1, 1), -2);
        DUE.is("what 47 of 47", d.relay(0, 47, 47), -2);
        // 0 sleeps now: one handing ahead of the first hour; 2 is awake till 12.
        DUE.is("6 hours", d.relay(0, 6, -1), 1);
        DUE.is("first of 6", d.relay(0, 6, 0), 1);
        DUE.is("last of 6", d.relay(0, 6, 5), 1);
        DUE.is("7 hours", d.relay(0, 7, -1), 1);
        DUE.is("first of 7", d.relay(0, 7, 0), 2);
        DUE.is("12 hours", d.relay(0, 12, -1), 1);
        DUE.is("13 hours", d.relay(0, 13, -1), 2);
        d.drop(0);
        DUE.is("one that lies", d.relay(0, 6, -1), -3);
        d = Due.told("duchy 0 0;kind 0 0;person 0 4 1 1;person 0 3 2 1;work 0;held 0 0");
        DUE.is("4 hours", d.relay(0, 4, -1), 0);
        DUE.is("nobody is awake in the fifth", d.relay(0, 5, -1), -2);
        DUE.is("nor who", d.relay(0, 5, 0), -2);
    }

    private static void relayRows() {
        StampDuchy d = Due.told(SHIFTS);
        // 24 hours: 0 can hold 8 to 23, 1 0 to 5 and 16 on, 2 0 to 11 and 18 on.
        // Two handings: to 2 at first, and once to 0 in one of 8 to 12: the first row is the soonest.
        DUE.is("24 hours", d.relay(0, 24, -1), 2);
        for (int k = 0; k < 24; k++) {
            DUE.is("row " + k, d.relay(0, 24, k), k < 8 ? 2 : 0);
        }
        // 48 hours: 0 must let go by 24, to 1 or 2; in 30 to 35 it is 2, in 36 to 41 0.
        DUE.is("48 hours", d.relay(0, 48, -1), 4);
        int[] until = {8, 24, 32, 48};
        int[] who = {2, 0, 2, 0};
        int at = 0;
        for (int k = 0; k < 48; k++) {
            if (k == until[at]) {
                at++;
            }
            DUE.is("row " + k + " of 48", d.relay(0, 48, k), who[at]);
        }
        // Hands are not asked: 1 holds as much as they can already.
        d = Due.told("duchy 0 0;kind 0 0;person 0 1 1 1;person 0 5 1 1;work 0;work 0;held 0 0;held 1 1");
        DUE.is("full hands", d.relay(0, 2, -1), 1);
        DUE.is("first row: 0 holds as long as they can", d.relay(0, 2, 0), 0);
        DUE.is("then 1", d.relay(0, 2, 1), 1);
        Due.pass(d, 25);
        DUE.is("it has stopped", d.relay(0, 2, -1), -3);
    }

    private static void mosts() {
        StampDuchy d = Due.told(Due.TOWN);
        // Hands awake: 0 to 5: 1 and 3; 6 to 9: 2 and 3; 10 to 21: 6; 22 on: 4.
        DUE.is("most", d.most(1, 0), 4);
        DUE.is("when", d.most(1, 1), 0);
        DUE.is("most of 48", d.most(48, 0), 4);
        Due.pass(d, 6);
        DUE.is("most of 16", d.most(16, 0), 5);
        DUE.is("when of 16", d.most(16, 1), 6);
        DUE.is("most of 17", d.most(17, 0), 4);
        DUE.is("when of 17", d.most(17, 1), 22);
        Due.pass(d, 5);
        DUE.is("most from 11 on", d.most(11, 0), 6);
        DUE.is("when from 11 on", d.most(11, 1), 11);
        DUE.is("0 hours", d.most(0, 0), -1);
        DUE.is("49 hours", d.most(49, 0), -1);
        DUE.is("what 2", d.most(1, 2), -1);
        DUE.is("what -1", d.most(1, -1), -1);
        DUE.is("nobody", Due.told("duchy 0 0").most(48, 0), 0);
        d = Due.told("duchy 0 0;person 0 1 1 2;person 0 0 0 1");
        DUE.is("two hours", d.most(2, 0), 1);
        DUE.is("the second", d.most(2, 1), 1);
    }

    private static void chainsAre(String text, int... due) {
        StampDuchy d = Due.told(text);
        for (int what = 0; what < 8; what++) {
            int want = what < due.length ? due[what] : -2;
            DUE.is("chains " + what + " of " + text, d.chains(what), want);
        }
    }

    private static void chainRows() {
        chainsAre(Due.TOWN, 2, 14, -1, -1, 0, 2);
        chainsAre("duchy 0 0", 0, 0);
        String three = "duchy 0 0;kind 1 0;kind 10 0;kind 30 0;work 0;work 1;work 2";
        chainsAre(three, 3, 41, -1, -1, -1);
        chainsAre(three + ";after 0 1;after 1 0", 2, 31, -1, 0, -1);
        // A ring is cut at the first, though another cut would cost less or more.
        chainsAre(three + ";after 0 1;after 1 2;after 2 0", 1, 1, -1, 2, 0);
        chainsAre(three + ";after 1 0;after 2 0", 2, 11, -1, -1, 0);
        // Fewest come ahead of the first row, and the first row ahead of the least cost.
        chainsAre(three + ";after 0 2;after 1 2;after 2 1", 1, 10, 2, -1, 1);
        chainsAre(three + ";after 0 2;after 0 1;after 1 2;after 2 1;after 2 0", 1, 1, -1, 2, 0);
        chainsAre("duchy 0 0;kind 30 0;kind 1 0;work 0;work 1;after 0 1;after 1 0", 1, 30, -1, 0);
    }

    private static void chainEdges() {
        StampDuchy d = Due.told(Due.TOWN);
        DUE.is("chains -1", d.chains(-1), -3);
        DUE.is("chains 8", d.chains(8), -3);
        DUE.is("chains 6 of four", d.chains(6), -2);
        // Six in a ring, each after the one before: the ring has to be cut once, at the first.
        chainsAre("duchy 0 0;kind 7 0;work 0;work 0;work 0;work 0;work 0;work 0;after 0 5;after 1 0;after 2 1;"
            + "after 3 2;after 4 3;after 5 4", 1, 7, -1, 0, 1, 2, 3, 4);
        // All can be after all.
        StringBuilder all = new StringBuilder("duchy 0 0;kind 7 0;work 0;work 0;work 0;work 0;work 0;work 0");
        for (int i = 0; i < 30; i++) {
            int work = i / 5;
            int from = i % 5 < work ? i % 5 : i % 5 + 1;
            all.append(";after").append(work).append(' ').append(from);
        }
        chainsAre(all.toString(), 1, 7, -1, 0, 1, 2, 3, 4);
    }

    private static void tariffIs(String text, int kind, int price, int income) {
        StampDuchy d = Due.told(text);
        DUE.is("price by " + text, d.tariff(kind, 0), price);
        DUE.is("income by " + text, d.tariff(kind, 1), income);
    }

    private static void tariffs() {
        String people = "duchy 0 0;kind 1 0;kind 2 0;person 12 0 0 1;person 5 0 24 1;person 4 0 0 1;person 0 0 0 1";
        tariffIs(people, 0, 0, 0);
        tariffIs(people + ";work 0", 0, 12, 12);
        tariffIs(people + ";work 0;work 0", 0, 12, 12);
        tariffIs(people + ";work 0;work 0;work 0", 0, 4, 12);
        tariffIs(people + ";work 1;work 0;work 1;work 0;work 0", 0, 4, 12);
        tariffIs(people + ";work 1;work 0;work 1;work 0;work 0", 1, 12, 12);
        tariffIs(people + ";work 0;work 0;work 0;held 1 0", 0, 12, 12);
        tariffIs(people + ";work 0;held 0 0", 0, 0, 0);
        tariffIs("duchy 0 0;kind 1 0;person 500 0 0 1;person 99 0 0 1;person 98 0 0 1;work 0;work 0;work 0", 0, 98,
            294);
        tariffIs("duchy 0 0;kind 1 0;person 500 0 0 1;work 0;work 0", 0, 99, 99);
        StampDuchy d = Due.told(people);
        DUE.is("no kind", d.tariff(2, 0), -1);
        DUE.is("no kind below", d.tariff(-1, 0), -1);
        DUE.is("what 2", d.tariff(0, 2), -1);
        DUE.is("what -1", d.tariff(0, -1), -1);
    }

    private static void helps() {
        StampDuchy d = Due.told(Due.TOWN);
        DUE.is("nobody needs it", d.help(48, 0), -1);
        DUE.is("none stops", d.help(48, 1), 0);
        // In hour 2 person 0 falls asleep with two works; 1 and 2 have one hand free together.
        d = Due.told("duchy 0 0;kind 0 0;person 0 2 1 2;person 0 0 0 1;person 0 0 0 1;work 0;work 0;work 0;"
            + "held 0 0;held 1 0;held 2 1");
        DUE.is("2 hours", d.help(2, 0), -1);
        DUE.is("none in 2 hours", d.help(2, 1), 0);
        DUE.is("3 hours", d.help(3, 0), 1);
        DUE.is("none in 3 hours", d.help(3, 1), 0);
        DUE.is("ahead without help", d.ahead(1, 3, 0), -1);
        d.hand(2, 2);
        DUE.is("the first of several", d.help(48, 0), 1);
        // Help that comes to nothing goes to nobody.
        d = Due.ruled("take 0", "duchy 0 0;kind 0 0;person 0 2 1 2;person 0 0 0 1;work 0;work 0;held 0 0;held 1 0");
        DUE.is("by the rule both stop", d.help(3, 0), -1);
        DUE.is("two", d.help(3, 1), 2);
        // A rule sees the hand that is given.
        d = Due.ruled("take 1 if hands=3", "duchy 0 0;kind 0 0;person 0 2 1 2;person 0 0 0 1;person 0 0 0 2;"
            + "work 0;held 0 0");
        DUE.is("hands of a rule", d.help(3, 0), 2);
        DUE.is("none stops by it", d.help(3, 1), 0);
        DUE.is("0 hours", d.help(0, 0), -2);
        DUE.is("49 hours", d.help(49, 0), -2);
        DUE.is("what 2", d.help(1, 2), -2);
        DUE.is("what -1", d.help(1, -1), -2);
        DUE.is("hands are as they were", d.person(2, 3), 2);
    }

    private static void values() {
        StampDuchy d = Due.told(Due.TOWN);
        DUE.is("3 an hour", d.value(0, 48), 144);
        DUE.is("1 an hour", d.value(1, 1), 1);
        DUE.is("one that lies", d.value(2, 1), -100000);
        DUE.is("no work", d.value(4, 1), -100000);
        DUE.is("no work below", d.value(-1, 1), -100000);
        DUE.is("0 hours", d.value(0, 0), -100000);
        DUE.is("49 hours", d.value(0, 49), -100000);
        // It stands in the way of a better one: in hour 2 there is one hand for both.
        d = Due.told("duchy 0 0;kind 0 1;kind 0 9;person 0 2 24 2;person 0 0 0 1;work 0;work 1;held 0 0;held 1 0");
        DUE.is("in the way", d.value(0, 1), -8);
        DUE.is("in the way for 10", d.value(0, 10), -80);
        DUE.is("the better one is in nobody's way", d.value(1, 10), 0);
        // A fine that would not be paid.
        d = Due.told("duchy 9 0;kind 0 1;person 5 0 0 1;work 0");
        d.sneak(0, 0);
        DUE.is("a fine", d.value(0, 1), -5);
        DUE.is("and earned again", d.value(0, 10), 4);
    }

    private static void watches() {
        StampDuchy d = Due.told(SHIFTS);
        // Awake: 0 to 5: 2; 6, 7: 1; 8 to 11: 2; 12 to 15: 1; 16, 17: 2; 18 on: 3.
        int[] order = {6, 7, 12, 13, 14, 15, 0, 1, 2, 3, 4, 5, 8, 9, 10, 11, 16, 17, 18, 19, 20, 21, 22, 23};
        for (int k = 0; k < 24; k++) {
            DUE.is("watch " + k, d.watch(k), order[k]);
        }
        Due.pass(d, 7);
        DUE.is("whatever the hour", d.watch(0), 6);
        DUE.is("watch 24", d.watch(24), -1);
        DUE.is("watch -1", d.watch(-1), -1);
        DUE.is("nobody", Due.told("duchy 0 0").watch(23), 23);
        d = Due.told("duchy 0 0;person 0 3 1 1;person 0 3 1 1;person 0 3 1 1;person 0 4 1 1");
        DUE.is("3 of four sleep", d.watch(0), 3);
        DUE.is("1 of four sleeps", d.watch(1), 4);
        DUE.is("none sleeps", d.watch(2), 0);
    }

    private static void logs() {
        StampDuchy d = new StampDuchy();
        DUE.is("without a duchy", d.log(0, 0, -1), -2);
        Due.duchy(d, Due.TOWN);
        DUE.is("61", d.log(61, 0, 0), -2);
        DUE.is("-2", d.log(-2, 0, 0), -2);
        DUE.is("no work", d.log(0, 4, 0), -2);
        DUE.is("no work below", d.log(0, -1, 0), -2);
        DUE.is("no person", d.log(0, 0, 3), -2);
        DUE.is("no person below", d.log(0, 0, -2), -2);
        DUE.is("none yet", d.count(11), 0);
        DUE.is("nobody held it", d.log(0, 2, -1), 1);
        DUE.is("60", d.log(60, 3, -1), 2);
        for (int i = 3; i <= 10; i++) {
            DUE.is("log " + i, d.log(60, 3, -1), i);
        }
        DUE.is("an eleventh", d.log(0, 0, 0), -2);
        DUE.is("ten", d.count(11), 10);
        DUE.is("away with them", d.log(-1, 99, 99), 0);
        DUE.is("none", d.count(11), 0);
    }

    private static void ruledByLogs() {
        StampDuchy d = Due.told(Due.HANDING);
        DUE.is("without logs: none", d.ruled(0), 1);
        DUE.is("the first: none", d.ruled(1), -1);
        Due.rule(d, "take person");
        Due.rule(d, "take 0");
        Due.rule(d, "take 5-person");
        DUE.is("all four", d.ruled(0), 4);
        d.log(0, 1, 2);
        DUE.is("to 2: rule 0", d.ruled(0), 1);
        DUE.is("rule 0", d.ruled(1), 0);
        d.log(-1, 0, 0);
        d.log(0, 1, 1);
        DUE.is("to 1: none, and rule 2", d.ruled(0), 2);
        DUE.is("none first", d.ruled(1), -1);
        // In hour 5 person 1 falls asleep: by none it goes to 0, by rule 2 too.
        d.log(5, 1, 0);
        DUE.is("the same then", d.ruled(0), 2);
        d.log(4, 1, 0);
        DUE.is("none is so", d.ruled(0), 0);
        DUE.is("there is none such", d.ruled(1), -2);
        d.log(-1, 0, 0);
        d.log(0, 1, -1);
        DUE.is("nobody: rule 1", d.ruled(1), 1);
        // From the begin on: whatever was done since, and whatever is in force.
        d.force(0);
        Due.pass(d, 30);
        d.drop(2);
        DUE.is("as the text told it", d.ruled(1), 1);
        DUE.is("only one", d.ruled(0), 1);
        DUE.is("what 2", d.ruled(2), -3);
        DUE.is("what -1", d.ruled(-1), -3);
    }

    private static void looks() {
        StampDuchy d = Due.told("duchy 0 0;kind 0 0;person 0 0 1 3;person 0 0 0 3;person 0 0 0 3;person 0 0 0 3;"
            + "work 0;work 0;work 0;held 0 0;held 1 0;held 2 0");
        Due.rule(d, "take 1");
        Due.rule(d, "take person if work=1;take 1");
        Due.rule(d, "take person if work>0;take 1");
        Due.rule(d, "take 2 if person=2 and work=2;take 0 if work=2;take 1");
        // Behind hour 0 work 0 is with 1 by all five, work 1 with 1 or 3, work 2 with 1, 3 or 2.
        DUE.is("ruled", d.ruled(0), 5);
        DUE.is("look: work 1 parts 3 and 2, as work 2 does", d.look(0, 0), 1);
        DUE.is("the most alike", d.look(0, 1), 3);
        Due.rule(d, "take 3 if person=3 and work=2;take 1");
        // Work 1: five of six with 1 but two; work 2: 3 with 1, 2 with 3, 1 with 2.
        DUE.is("look", d.look(0, 0), 2);
        DUE.is("three alike", d.look(0, 1), 3);
        d.log(0, 1, 3);
        DUE.is("two left", d.ruled(0), 2);
        DUE.is("work 2 parts them", d.look(0, 0), 2);
        DUE.is("one by one", d.look(0, 1), 1);
        DUE.is("behind hour 60 too", d.look(60, 0), 2);
        d.log(1, 1, 2);
        DUE.is("no rule is so", d.look(0, 0), -2);
        DUE.is("nor how many", d.look(60, 1), -2);
        DUE.is("61", d.look(61, 0), -1);
        DUE.is("-1", d.look(-1, 0), -1);
        DUE.is("what 2", d.look(0, 2), -1);
        DUE.is("what -1", d.look(0, -1), -1);
        DUE.is("no works", Due.told("duchy 0 0").look(0, 0), -2);
        DUE.is("no works, how many", Due.told("duchy 0 0").look(0, 1), -2);
        d = Due.told(Due.HANDING);
        DUE.is("one candidate", d.look(9, 0), 0);
        DUE.is("alone", d.look(9, 1), 1);
    }

    private static void nightsDrawn() {
        StampDuchy d = Due.told(Due.TOWN);
        DUE.is("0 nights", d.nights(0, 1, 1, 0), -1);
        DUE.is("11 nights", d.nights(11, 1, 1, 0), -1);
        DUE.is("0 hours", d.nights(1, 0, 1, 0), -1);
        DUE.is("61 hours", d.nights(1, 61, 1, 0), -1);
        DUE.is("p -1", d.nights(1, 1, -1, 0), -1);
        DUE.is("p 101", d.nights(1, 1, 101, 0), -1);
        DUE.is("what 2", d.nights(1, 1, 1, 2), -1);
        DUE.is("what -1", d.nights(1, 1, 1, -1), -1);
        DUE.is("never dropped", d.nights(10, 60, 0, 0), 0);
        DUE.is("all go on", d.nights(10, 60, 0, 1), 20);
        DUE.is("always dropped", d.nights(10, 60, 100, 0), 20);
        DUE.is("none goes on", d.nights(10, 60, 100, 1), 0);
        DUE.is("one of two is left", d.nights(10, 1, 100, 1), 10);
        // Nobody awake takes them: all stop of themselves.
        d = Due.told("duchy 0 0;kind 0 0;person 0 5 1 2;work 0;work 0;held 0 0;held 1 0");
        DUE.is("stop by night", d.nights(3, 6, 0, 0), 6);
        DUE.is("by night none goes", d.nights(3, 6, 0, 1), 0);
        DUE.is("ahead of it", d.nights(3, 5, 0, 1), 6);
    }

    /** The draws once more, on five works that nobody hands on: who is left tells which were dropped. */
    private static void nightsByHand() {
        StampDuchy d = Due.told("duchy 0 0;kind 0 0;person 0 0 0 3;person 0 0 0 3;work 0;work 0;work 0;work 0;work 0;"
            + "held 0 0;held 1 0;held 2 0;held 3 1;held 4 1");
        for (int seed = 0; seed < 2000000000; seed += 99999999) {
            d.seed(seed);
            for (int p = 0; p <= 100; p += 20) {
                long x = seed;
                int drops = 0;
                int left = 0;
                for (int night = 0; night < 4; night++) {
                    int going = 5;
                    for (int hour = 0; hour < 7; hour++) {
                        x = (x * 1103515245 + 12345) % 2147483648L;
                        if (x / 65536 % 100 < p && going > 0) {
                            x = (x * 1103515245 + 12345) % 2147483648L;
                            going--;
                            drops++;
                        }
                    }
                    left += going;
                }
                DUE.is("drops of " + seed + " by " + p, d.nights(4, 7, p, 0), drops);
                DUE.is("left of " + seed + " by " + p, d.nights(4, 7, p, 1), left);
            }
            DUE.is("x as it was", d.count(13), seed);
        }
        // Which one is dropped: 0 would stop in hour 0 of itself, 1 goes on.
        d = Due.ruled("take 1 if work=1", "duchy 0 0;kind 0 0;person 0 0 1 2;person 0 0 0 2;work 0;work 0;"
            + "held 0 0;held 1 0");
        for (int seed = 0; seed < 1000; seed += 37) {
            d.seed(seed);
            long x = (seed * 1103515245L + 12345) % 2147483648L;
            x = (x * 1103515245L + 12345) % 2147483648L;
            boolean first = x / 65536 % 2 == 0;
            DUE.is("the dropped of " + seed, d.nights(1, 1, 100, 0), first ? 1 : 2);
            DUE.is("going by " + seed, d.nights(1, 1, 100, 1), first ? 1 : 0);
        }
    }

    private static void nothingChanges() {
        StampDuchy d = Due.ruled("take awake", Due.TOWN);
        d.seed(99);
        d.log(2, 0, 2);
        d.sneak(3, 2);
        d.hour();
        int before = sight(d);
        d.ahead(0, 100, 0);
        d.stops(0);
        d.save(1, 0);
        d.relay(0, 48, 47);
        d.most(48, 1);
        d.chains(2);
        d.tariff(0, 0);
        d.help(48, 0);
        d.value(0, 48);
        d.watch(3);
        d.ruled(0);
        d.look(60, 0);
        d.nights(10, 60, 50, 0);
        DUE.is("all as it was", sight(d), before);
        DUE.is("hour", d.count(7), 1);
        DUE.is("x", d.count(13), 99);
    }

    /** One number for all that can be seen. */
    private static int sight(StampDuchy d) {
        int sight = 0;
        for (int what = 0; what <= 14; what++) {
            sight = sight * 31 + d.count(what);
            for (int i = 0; i < 6; i++) {
                sight = sight * 31 + d.kind(i, what);
                sight = sight * 31 + d.person(i, what);
                sight = sight * 31 + d.work(i, what);
            }
        }
        return sight;
    }
}
