/** Promises 16 to 28 and 30: what is asked, and logs. */
final class AskPromises {
    private static final int NONE = StampDuchy.NONE;

    private final Edges e;

    AskPromises(Edges e) {
        this.e = e;
    }

    void all() {
        aheads();
        aheadRefused();
        stops();
        saves();
        relays();
        relayRefused();
        mosts();
        mostRefused();
        chains();
        chainsRefused();
        tariffs();
        tariffRefused();
        helps();
        helpRefused();
        values();
        watches();
        watchRefused();
        logs();
        logRefused();
        ruled();
        ruledRefused();
        looks();
        looksAtNothing();
        lookRefused();
        nights();
        nightsRefused();
    }

    private void aheads() {
        e.promise(16, "AHEAD what 0: who holds the WORK (of that number; NONE: it lies), 1: the PURSE of the PERSON,"
            + " 2: the CHEST (of no number).");
        StampDuchy d = Due.told(Due.FULL);
        int[] holders = {1, 1, 2, 2, 3, 3};
        for (int work = 0; work < 6; work++) {
            e.is("work " + work, d.ahead(work, 0, 0), holders[work]);
        }
        d.drop(5);
        e.is("one that lies", d.ahead(5, 0, 0), NONE);
        e.is("it lies on", d.ahead(5, 100, 0), NONE);
        int[] purses = {100, 93, 87, 75};
        for (int person = 0; person < 4; person++) {
            e.is("purse " + person, d.ahead(person, 1, 1), purses[person]);
        }
        e.is("chest", d.ahead(0, 100, 2), 100);
        for (int n : Edges.far()) {
            e.is("chest of any number", d.ahead(n, 0, 2), 100);
        }
    }

    private void aheadRefused() {
        e.promise(16, "-2 without these, or a DUCHY.");
        StampDuchy d = Due.told(Due.FULL);
        e.refused(d, -2, () -> d.ahead(6, 1, 0), () -> d.ahead(-1, 1, 0), () -> d.ahead(4, 1, 1),
            () -> d.ahead(-1, 1, 1), () -> d.ahead(0, -1, 0), () -> d.ahead(0, 101, 0),
            () -> d.ahead(0, -1, 1), () -> d.ahead(0, 101, 1),
            () -> d.ahead(0, -1, 2), () -> d.ahead(0, 101, 2), () -> d.ahead(0, 1, 3), () -> d.ahead(0, 1, -1));
        for (int n : Edges.far()) {
            e.is("far work", d.ahead(n, 1, 0), -2);
            e.is("far person", d.ahead(n, 1, 1), -2);
            e.is("far hour", d.ahead(0, n, 2), -2);
            e.is("far what", d.ahead(0, 1, n), -2);
        }
        StampDuchy none = new StampDuchy();
        e.refused(none, -2, () -> none.ahead(0, 0, 0), () -> none.ahead(0, 0, 1), () -> none.ahead(0, 0, 2));
    }

    private void stops() {
        e.promise(17, "STOPS; -2: in none of these; NONE without a WORK that goes.");
        StampDuchy d = Due.told("duchy 0 0;kind 0 0;person 0 3 1 1;person 0 0 0 1;work 0;work 0;work 0;held 0 0;held"
            + " 1 1");
        e.is("in 3", d.stops(0), 3);
        e.is("never", d.stops(1), -2);
        e.refused(d, NONE, () -> d.stops(2), () -> d.stops(3), () -> d.stops(-1));
        Due.pass(d, 4);
        e.is("it has stopped", d.stops(0), NONE);
        for (int n : Edges.far()) {
            e.is("far", d.stops(n), NONE);
        }
        e.is("without a duchy", new StampDuchy().stops(0), NONE);
        e.is("the last work", Due.told(Due.FULL).stops(5), -2);
        e.is("behind it", Due.told(Due.FULL).stops(6), NONE);
        StampDuchy now = Due.told("duchy 0 0;kind 0 0;person 0 0 1 1;work 0;held 0 0");
        e.is("in this hour, 0", now.stops(0), 0);
    }

    private void saves() {
        e.promise(18, "SAVE; -2: in none of these; NONE without these.");
        StampDuchy d = Due.told(Due.FULL);
        e.is("at once", d.save(0, 4), 0);
        e.is("never", Due.told("duchy 0 0;kind 1 0;person 0 0 0 1").save(0, 0), -2);
        e.is("the last of both", d.save(3, 4), 0);
        e.refused(d, NONE, () -> d.save(4, 0), () -> d.save(-1, 0), () -> d.save(0, 5), () -> d.save(0, -1));
        for (int n : Edges.far()) {
            e.is("far person", d.save(n, 0), NONE);
            e.is("far kind", d.save(0, n), NONE);
        }
        e.is("without a duchy", new StampDuchy().save(0, 0), NONE);
    }

    private void relays() {
        e.promise(19, "RELAY what NONE: how many, 0 to 47: who (-2: so many HOURS there are not); -2: it can't be.");
        StampDuchy d = Due.told("duchy 0 0;kind 0 0;person 0 0 0 1;person 0 0 24 1;work 0;work 0;held 0 0;held 1 1");
        e.is("none", d.relay(0, 48, NONE), 0);
        e.is("who in the first", d.relay(0, 48, 0), 0);
        e.is("who in the last", d.relay(0, 48, 47), 0);
        e.is("of one hour", d.relay(0, 1, 0), 0);
        e.is("not of two", d.relay(0, 1, 1), -2);
        e.is("nor of 48", d.relay(0, 1, 47), -2);
        e.is("the 48th of 47", d.relay(0, 47, 47), -2);
        e.is("the 47th of 47", d.relay(0, 47, 46), 0);
        e.is("of a sleeper", d.relay(1, 48, NONE), 1);
        d = Due.told("duchy 0 0;kind 0 0;person 0 1 1 1;work 0;held 0 0");
        e.is("it can be", d.relay(0, 1, NONE), 0);
        e.is("it can't be", d.relay(0, 2, NONE), -2);
        e.is("nobody", d.relay(0, 2, 0), -2);
        e.is("nobody, and no such hour", d.relay(0, 2, 2), -2);
    }

    private void relayRefused() {
        e.promise(19, "-3 without these.");
        StampDuchy d = Due.told(Due.FULL);
        d.drop(0);
        e.refused(d, -3, () -> d.relay(0, 1, NONE), () -> d.relay(6, 1, NONE), () -> d.relay(-1, 1, NONE),
            () -> d.relay(1, 0, NONE), () -> d.relay(1, 49, NONE), () -> d.relay(1, -1, NONE),
            () -> d.relay(1, 1, -2), () -> d.relay(1, 1, 48), () -> d.relay(1, 48, 48),
            () -> d.relay(1, 49, 48), () -> d.relay(1, 0, 0));
        for (int n : Edges.far()) {
            e.is("far work", d.relay(n, 1, NONE), -3);
            e.is("far hours", d.relay(1, n, NONE), -3);
            e.is("far what", d.relay(1, 1, n), -3);
        }
        e.is("without a duchy", new StampDuchy().relay(0, 1, NONE), -3);
    }

    private void mosts() {
        e.promise(20, "MOST what 0: how many, 1: the HOUR.");
        StampDuchy d = Due.told("duchy 0 0;person 0 1 1 3;person 0 2 1 2");
        e.is("how many", d.most(48, 0), 2);
        e.is("the hour", d.most(48, 1), 1);
        e.is("of one hour", d.most(1, 0), 5);
        e.is("it", d.most(1, 1), 0);
    }

    private void mostRefused() {
        e.promise(20, "NONE without these, or a DUCHY.");
        StampDuchy d = Due.told(Due.FULL);
        e.refused(d, NONE, () -> d.most(0, 0), () -> d.most(49, 0), () -> d.most(-1, 1), () -> d.most(49, 1),
            () -> d.most(1, 2), () -> d.most(1, -1));
        for (int n : Edges.far()) {
            e.is("far hours", d.most(n, 0), NONE);
            e.is("far what", d.most(1, n), NONE);
        }
        StampDuchy none = new StampDuchy();
        e.refused(none, NONE, () -> none.most(1, 0), () -> none.most(1, 1));
    }

    private void chains() {
        e.promise(21, "CHAINS what 0: how many begin, 1: what it costs, 2 to 7: what the WORK less 2 goes on from"
            + " (NONE: it begins; -2: there is no such WORK).");
        StampDuchy d = Due.told(Due.FULL);
        int[] due = {1, 10, NONE, 0, 1, 2, 3, 4};
        for (int what = 0; what < 8; what++) {
            e.is("of six: " + what, d.chains(what), due[what]);
        }
        d = Due.told("duchy 0 0");
        for (int what = 0; what < 8; what++) {
            e.is("of none: " + what, d.chains(what), what < 2 ? 0 : -2);
        }
        d = Due.told("duchy 0 0;kind 3 0" + Due.times(";work 0", 5));
        e.is("the last of five", d.chains(6), NONE);
        e.is("no sixth", d.chains(7), -2);
    }

    private void chainsRefused() {
        e.promise(21, "-3 for others, or without a DUCHY.");
        StampDuchy d = Due.told(Due.FULL);
        e.refused(d, -3, () -> d.chains(8), () -> d.chains(-1));
        for (int n : Edges.far()) {
            e.is("far", d.chains(n), -3);
        }
        StampDuchy none = new StampDuchy();
        e.refused(none, -3, () -> none.chains(0), () -> none.chains(1), () -> none.chains(2), () -> none.chains(7));
    }

    private void tariffs() {
        e.promise(22, "TARIFF what 0: PRICE, 1: how much.");
        StampDuchy d = Due.told(Due.FULL);
        e.is("none of it lies", d.tariff(0, 0), 0);
        e.is("nothing", d.tariff(0, 1), 0);
        d.drop(0);
        d.drop(5);
        e.is("two lie: 90 of 100 and 93", d.tariff(0, 0), 90);
        e.is("180", d.tariff(0, 1), 180);
        d.drop(4);
        e.is("one of the last kind", d.tariff(4, 0), 99);
        e.is("99", d.tariff(4, 1), 99);
    }

    private void tariffRefused() {
        e.promise(22, "NONE without these.");
        StampDuchy d = Due.told(Due.FULL);
        e.refused(d, NONE, () -> d.tariff(5, 0), () -> d.tariff(-1, 0), () -> d.tariff(0, 2), () -> d.tariff(0, -1));
        for (int n : Edges.far()) {
            e.is("far kind", d.tariff(n, 0), NONE);
            e.is("far what", d.tariff(0, n), NONE);
        }
        e.is("without a duchy", new StampDuchy().tariff(0, 0), NONE);
    }

    private void helps() {
        e.promise(23, "HELP what 0: who (NONE: nobody), 1: how often.");
        StampDuchy d = Due.told("duchy 0 0;kind 0 0;person 0 1 1 2;person 0 0 0 1;work 0;work 0;work 0;held 0 0;held"
            + " 1 0;held 2 1");
        e.is("nobody in one hour", d.help(1, 0), NONE);
        e.is("never in one hour", d.help(1, 1), 0);
        e.is("1 in two hours", d.help(2, 0), 1);
        e.is("one stops", d.help(2, 1), 1);
    }

    private void helpRefused() {
        e.promise(23, "-2 without these, or a DUCHY.");
        StampDuchy d = Due.told(Due.FULL);
        e.refused(d, -2, () -> d.help(0, 0), () -> d.help(49, 0), () -> d.help(-1, 1), () -> d.help(49, 1),
            () -> d.help(1, 2), () -> d.help(1, -1));
        for (int n : Edges.far()) {
            e.is("far hours", d.help(n, 0), -2);
            e.is("far what", d.help(1, n), -2);
        }
        StampDuchy none = new StampDuchy();
        e.refused(none, -2, () -> none.help(1, 0), () -> none.help(1, 1));
    }

    private void values() {
        e.promise(24, "VALUE; -100000 without these.");
        StampDuchy d = Due.told(Due.FULL);
        e.is("one hour", d.value(4, 1), 5);
        e.is("48 hours of the last", d.value(5, 48), 48);
        d.drop(0);
        e.refused(d, -100000, () -> d.value(0, 1), () -> d.value(6, 1), () -> d.value(-1, 1), () -> d.value(1, 0),
            () -> d.value(1, 49), () -> d.value(1, -1));
        for (int n : Edges.far()) {
            e.is("far work", d.value(n, 1), -100000);
            e.is("far hours", d.value(1, n), -100000);
        }
        e.is("without a duchy", new StampDuchy().value(0, 1), -100000);
    }

    private void watches() {
        e.promise(25, "WATCH: the k-th HOUR of the day;");
        StampDuchy d = Due.told("duchy 0 0;person 0 23 1 1");
        e.is("the first", d.watch(0), 23);
        for (int k = 1; k < 24; k++) {
            e.is("watch " + k, d.watch(k), k - 1);
        }
    }

    private void watchRefused() {
        e.promise(25, "NONE without these (k 0 to 23), or a DUCHY.");
        StampDuchy d = Due.told(Due.FULL);
        e.refused(d, NONE, () -> d.watch(24), () -> d.watch(-1), () -> d.watch(25));
        for (int n : Edges.far()) {
            e.is("far", d.watch(n), NONE);
        }
        // With nobody in it, too, there are no more than 24.
        StampDuchy empty = Due.told("duchy 0 0");
        e.refused(empty, NONE, () -> empty.watch(24), () -> empty.watch(-1));
        StampDuchy none = new StampDuchy();
        for (int k = -1; k <= 24; k++) {
            e.is("without a duchy " + k, none.watch(k), NONE);
        }
    }

    private void logs() {
        e.promise(26, "A LOG (n NONE: there are none then, 0; PERSON NONE: nobody): how many;");
        StampDuchy d = Due.told(Due.FULL);
        e.is("the first", d.log(0, 0, 0), 1);
        e.is("the last of all", d.log(60, 5, 3), 2);
        e.is("nobody", d.log(0, 0, NONE), 3);
        e.is("the same once more", d.log(0, 0, NONE), 4);
        e.is("none then", d.log(NONE, 0, 0), 0);
        e.is("none", d.count(11), 0);
        d.log(0, 0, 0);
        for (int n : Edges.far()) {
            e.is("none, whatever else is told", d.log(NONE, n, n), 0);
        }
        e.is("none of none", d.log(NONE, 0, 0), 0);
        for (int i = 1; i <= 10; i++) {
            e.is("log " + i, d.log(i, 0, 0), i);
        }
        e.is("none of ten", d.log(NONE, 0, 0), 0);
        e.is("and on", d.log(0, 0, 0), 1);
        StampDuchy none = new StampDuchy();
        e.is("none without a duchy", none.log(NONE, 0, 0), 0);
    }

    private void logRefused() {
        e.promise(26, "-2, and nothing happens, without these, or if there are 10.");
        StampDuchy d = Due.told(Due.FULL);
        d.log(0, 0, 1);
        e.refused(d, -2, () -> d.log(61, 0, 0), () -> d.log(-2, 0, 0), () -> d.log(0, 6, 0), () -> d.log(0, -1, 0),
            () -> d.log(0, 0, 4), () -> d.log(0, 0, -2));
        for (int n : Edges.far()) {
            e.is("far hour", d.log(n, 0, 0), -2);
            e.is("far work", d.log(0, n, 0), -2);
            e.is("far person", d.log(0, 0, n), -2);
        }
        e.is("one", d.count(11), 1);
        for (int i = 2; i <= 10; i++) {
            d.log(0, 0, 1);
        }
        e.refused(d, -2, () -> d.log(0, 0, 0), () -> d.log(60, 5, NONE));
        e.is("all ten are so", d.ruled(0), 1);
        StampDuchy none = new StampDuchy();
        e.refused(none, -2, () -> none.log(0, 0, NONE), () -> none.log(0, 0, 0));
    }

    private void ruled() {
        e.promise(27, "RULED what 0: how many, 1: the first (NONE: none; -2: there is none such).");
        StampDuchy d = Due.told(Due.HANDING);
        e.is("one", d.ruled(0), 1);
        e.is("none", d.ruled(1), NONE);
        Due.rule(d, "take person");
        d.log(0, 1, 2);
        e.is("only the rule", d.ruled(0), 1);
        e.is("rule 0", d.ruled(1), 0);
        d.log(0, 1, 1);
        e.is("no more", d.ruled(0), 0);
        e.is("none such", d.ruled(1), -2);
    }

    private void ruledRefused() {
        e.promise(27, "-3 for others, or without a DUCHY.");
        StampDuchy d = Due.told(Due.HANDING);
        e.refused(d, -3, () -> d.ruled(2), () -> d.ruled(-1));
        for (int n : Edges.far()) {
            e.is("far", d.ruled(n), -3);
        }
        StampDuchy none = new StampDuchy();
        Due.rule(none, "take 1");
        e.refused(none, -3, () -> none.ruled(0), () -> none.ruled(1));
    }

    private void looks() {
        e.promise(28, "LOOK (n 0 to 60) what 0: the WORK, 1: how many;");
        StampDuchy d = Due.told(Due.HANDING);
        Due.rule(d, "take person");
        e.is("behind hour 0 the work that was handed on", d.look(0, 0), 1);
        e.is("one each", d.look(0, 1), 1);
        e.is("behind hour 60 as well", d.look(60, 1), 1);
        e.is("not behind 61", d.look(61, 1), NONE);
        e.is("not behind -1", d.look(-1, 1), NONE);
    }

    private void looksAtNothing() {
        e.promise(28, "-2: no RULE is so, or there are no WORKS.");
        StampDuchy d = Due.told(Due.HANDING);
        d.log(60, 0, 0);
        e.refused(d, -2, () -> d.look(0, 0), () -> d.look(0, 1), () -> d.look(60, 0), () -> d.look(60, 1));
        StampDuchy empty = Due.told("duchy 0 0;kind 0 0;person 0 0 0 1");
        e.refused(empty, -2, () -> empty.look(0, 0), () -> empty.look(0, 1), () -> empty.look(60, 0),
            () -> empty.look(60, 1));
        // Works, and nobody to hold them.
        StampDuchy lonely = Due.told("duchy 0 0;kind 0 0;work 0");
        e.is("a work that lies", lonely.look(0, 0), 0);
        e.is("by none alone", lonely.look(60, 1), 1);
    }

    private void lookRefused() {
        e.promise(28, "NONE without these, or a DUCHY.");
        StampDuchy d = Due.told(Due.HANDING);
        e.refused(d, NONE, () -> d.look(61, 0), () -> d.look(-1, 0), () -> d.look(0, 2), () -> d.look(0, -1));
        for (int n : Edges.far()) {
            e.is("far hour", d.look(n, 0), NONE);
            e.is("far what", d.look(0, n), NONE);
        }
        StampDuchy none = new StampDuchy();
        e.refused(none, NONE, () -> none.look(0, 0), () -> none.look(60, 1));
        e.is("also of no works", Due.told("duchy 0 0").look(61, 0), NONE);
    }

    private void nights() {
        e.promise(30, "NIGHTS what 0: how often, 1: how many go.");
        StampDuchy d = Due.told(Due.FULL);
        e.is("never", d.nights(10, 60, 0, 0), 0);
        e.is("all go", d.nights(10, 60, 0, 1), 60);
        e.is("all are dropped", d.nights(10, 60, 100, 0), 60);
        e.is("none goes", d.nights(10, 6, 100, 1), 0);
        e.is("one is left", d.nights(1, 5, 100, 1), 1);
        StampDuchy empty = Due.told("duchy 0 0");
        e.is("of no works", empty.nights(10, 60, 100, 0), 0);
        e.is("none goes of none", empty.nights(10, 60, 100, 1), 0);
    }

    private void nightsRefused() {
        e.promise(30, "NONE without these, or a DUCHY.");
        StampDuchy d = Due.told(Due.FULL);
        e.refused(d, NONE, () -> d.nights(0, 1, 0, 0), () -> d.nights(11, 1, 0, 0), () -> d.nights(1, 0, 0, 0),
            () -> d.nights(1, 61, 0, 0), () -> d.nights(1, 1, -1, 0), () -> d.nights(1, 1, 101, 0),
            () -> d.nights(1, 1, 0, 2), () -> d.nights(1, 1, 0, -1), () -> d.nights(-1, 1, 0, 1),
            () -> d.nights(1, -1, 0, 1));
        for (int n : Edges.far()) {
            e.is("far times", d.nights(n, 1, 0, 0), NONE);
            e.is("far hours", d.nights(1, n, 0, 0), NONE);
            e.is("far p", d.nights(1, 1, n, 0), NONE);
            e.is("far what", d.nights(1, 1, 0, n), NONE);
        }
        StampDuchy none = new StampDuchy();
        e.refused(none, NONE, () -> none.nights(1, 1, 0, 0), () -> none.nights(1, 1, 0, 1));
    }
}
