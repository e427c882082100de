/** Promises 7 to 15 and 29 to 33 by hand: how things stand, acts, what is undone, and images. */
public final class ActTest {
    private static final Due DUE = new Due();

    public static void main(String[] args) {
        kindPersonWork();
        countAll();
        hours();
        stopping();
        clerk();
        clerkTakesWhatThereIs();
        mostInPurse();
        lastHour();
        begins();
        sneaks();
        hands();
        drops();
        undos();
        undoneAreTwenty();
        seeds();
        images();
        imagesOfAll();
        imagesKeepTheirOwn();
        DUE.finish();
    }

    private static void kindPersonWork() {
        StampDuchy d = Due.told(Due.TOWN);
        DUE.is("price", d.kind(0, 0), 10);
        DUE.is("worth", d.kind(1, 1), 1);
        DUE.is("kind -1", d.kind(-1, 0), -1);
        DUE.is("kind 2", d.kind(2, 0), -1);
        DUE.is("kind what 2", d.kind(0, 2), -1);
        DUE.is("kind what -1", d.kind(0, -1), -1);
        int[][] people = {{50, 22, 8, 2, 1, 0}, {9, 6, 4, 1, 2, 1}, {0, 0, 0, 3, 0, 1}};
        for (int p = 0; p < 3; p++) {
            for (int what = 0; what < 6; what++) {
                DUE.is("person " + p + " " + what, d.person(p, what), people[p][what]);
            }
        }
        DUE.is("person 3", d.person(3, 0), -1);
        DUE.is("person -1", d.person(-1, 0), -1);
        DUE.is("person what 6", d.person(0, 6), -1);
        DUE.is("person what -1", d.person(0, -1), -1);
        int[][] works = {{0, 0, 0, 0, 0}, {1, 1, 0, 0, 1}, {0, -1, 0, 0, 1}, {1, -1, 0, 0, 4}};
        for (int w = 0; w < 4; w++) {
            for (int what = 0; what < 5; what++) {
                DUE.is("work " + w + " " + what, d.work(w, what), works[w][what]);
            }
        }
        DUE.is("work 4", d.work(4, 0), -2);
        DUE.is("work -1", d.work(-1, 0), -2);
        DUE.is("work what 5", d.work(0, 5), -2);
        DUE.is("work what -1", d.work(0, -1), -2);
    }

    private static void countAll() {
        StampDuchy d = Due.ruled("take 1", Due.TOWN);
        d.sneak(2, 2);
        d.log(5, 0, -1);
        d.log(6, 0, 2);
        d.seed(2147483647);
        d.feed(0, 0, 0, 0, 0);
        int[] due = {7, 100, 2, 3, 4, 1, 0, 0, 7, 4, 6, 2, 1, 2147483647, 20};
        for (int what = 0; what < due.length; what++) {
            DUE.is("count " + what, d.count(what), due[what]);
        }
        DUE.is("count 15", d.count(15), -1);
        DUE.is("count -1", d.count(-1), -1);
        Due.pass(d, 22);
        DUE.is("hour 22", d.count(7), 22);
        DUE.is("awake in hour 22", d.count(10), 6);
        d.undo();
        DUE.is("awake in hour 21", d.count(10), 7);
    }

    private static void hours() {
        StampDuchy d = Due.told(Due.TOWN);
        DUE.is("hour 0", d.hour(), 0);
        DUE.is("hour then", d.count(7), 1);
        DUE.is("work 0 went past full hands", d.work(0, 1), 2);
        DUE.is("work 1 stays", d.work(1, 1), 1);
        DUE.is("purse 0", d.person(0, 0), 50);
        DUE.is("purse 1", d.person(1, 0), 10);
        DUE.is("purse 2", d.person(2, 0), 3);
        Due.pass(d, 5);
        DUE.is("purse 1 in hour 6", d.person(1, 0), 15);
        DUE.is("purse 2 in hour 6", d.person(2, 0), 18);
        d.hour();
        DUE.is("work 1 goes to the first", d.work(1, 1), 0);
        DUE.is("purse 0 in hour 7", d.person(0, 0), 51);
        DUE.is("purse 1 in hour 7", d.person(1, 0), 15);
        Due.pass(d, 15);
        DUE.is("hour 22", d.count(7), 22);
        DUE.is("held till 22", d.work(1, 1), 0);
        d.hour();
        DUE.is("in hour 22 to the first again", d.work(1, 1), 1);
        DUE.is("purse 0 of 15 hours", d.person(0, 0), 66);
    }

    /** Two hold three works between them, and nobody has a hand free when one falls asleep. */
    private static void stopping() {
        StampDuchy d = Due.told("duchy 0 0;kind 0 2;person 0 3 1 2;person 0 3 21 3;work 0;work 0;work 0;"
            + "held 0 0;held 1 0;held 2 1");
        Due.pass(d, 3);
        DUE.is("two fall with their holder, one with theirs", d.hour(), 3);
        DUE.is("none goes", d.count(8), 0);
        DUE.is("stopped", d.work(0, 3), 1);
        DUE.is("purse", d.person(0, 0), 12);
        DUE.is("nothing more stops", d.hour(), 0);
        d.begin(0, 0);
        Due.pass(d, 22);
        DUE.is("hour", d.count(7), 27);
        DUE.is("again", d.hour(), 1);
        DUE.is("stopped twice", d.work(0, 3), 2);
        d = Due.told("duchy 0 0;kind 0 2;person 0 3 1 3;person 0 0 0 2;work 0;work 0;work 0;work 0;"
            + "held 0 0;held 1 0;held 2 0;held 3 1");
        Due.pass(d, 3);
        DUE.is("by numbers: one has room, two stop", d.hour(), 2);
        DUE.is("which go", d.count(8), 9);
        DUE.is("who has them", d.person(1, 4), 9);
        // Round the day, and a span of 24.
        d = Due.told("duchy 0 0;person 0 23 2 1;person 0 7 24 1;person 0 7 0 1");
        int[] awake = {4, 5, 5, 5};
        for (int hour = 0; hour < 4; hour++) {
            DUE.is("awake in " + hour, d.count(10), awake[hour]);
            d.hour();
        }
        Due.pass(d, 19);
        DUE.is("awake in 23", d.count(10), 4);
    }

    private static void clerk() {
        StampDuchy d = Due.told("duchy 5 10;kind 9 2;person 1 0 0 3;work 0;work 0");
        DUE.is("sneak 0", d.sneak(0, 0), 1);
        DUE.is("sneak 1", d.sneak(1, 0), 3);
        DUE.is("the chest has nothing of it", d.count(1), 10);
        d.hour();
        DUE.is("5 of 5 are paid, then 0 of 0", d.person(0, 0), 0);
        DUE.is("chest", d.count(1), 15);
        DUE.is("sneaked no more", d.count(9), 0);
        DUE.is("they go", d.count(8), 3);
        d.drop(0);
        d.sneak(0, 0);
        Due.pass(d, 23);
        DUE.is("hour 24", d.count(7), 24);
        DUE.is("not found by then", d.count(9), 1);
        DUE.is("purse by then", d.person(0, 0), 92);
        d.hour();
        DUE.is("found", d.count(9), 0);
        DUE.is("purse", d.person(0, 0), 91);
        DUE.is("chest then", d.count(1), 20);
    }

    private static void clerkTakesWhatThereIs() {
        StampDuchy d = Due.told("duchy 99 9999;kind 9 2;person 3 0 0 3;person 500 0 0 1;work 0;work 0;work 0");
        d.sneak(0, 0);
        d.sneak(1, 1);
        d.begin(2, 1);
        DUE.is("a full hand begins nothing", d.count(8), 3);
        d.hour();
        DUE.is("all they have", d.person(0, 0), 0);
        DUE.is("the fine", d.person(1, 0), 403);
        DUE.is("chest", d.count(1), 10103);
        // A sneaked work that is handed on stays so: who holds it pays.
        d = Due.told("duchy 4 0;kind 9 0;person 8 23 1 1;person 8 0 0 1;work 0;work 0");
        Due.pass(d, 1);
        d.sneak(0, 0);
        Due.pass(d, 24);
        DUE.is("hour", d.count(7), 25);
        DUE.is("it went on", d.work(0, 1), 1);
        DUE.is("who sneaked pays nothing", d.person(0, 0), 8);
        DUE.is("who holds pays", d.person(1, 0), 4);
        // A sneaked work that stops is not sneaked.
        d = Due.told("duchy 4 0;kind 9 0;person 8 2 1 1;work 0");
        Due.pass(d, 1);
        d.sneak(0, 0);
        DUE.is("sneaked", d.work(0, 2), 1);
        Due.pass(d, 2);
        DUE.is("it stopped", d.work(0, 3), 1);
        DUE.is("not sneaked", d.count(9), 0);
    }

    private static void mostInPurse() {
        StampDuchy d = Due.told("duchy 0 0;kind 0 9;person 999 0 0 3;work 0;work 0;work 0;held 0 0;held 1 0;held 2 0");
        Due.pass(d, 333);
        DUE.is("purse of 333 hours", d.person(0, 0), 9990);
        DUE.is("ahead, at most", d.ahead(0, 1, 1), 9999);
        d.hour();
        DUE.is("purse at most", d.person(0, 0), 9999);
        d.hour();
        DUE.is("purse stays", d.person(0, 0), 9999);
        DUE.is("acts", d.count(12), 20);
        DUE.is("it is worth nothing more", d.value(0, 48), 0);
    }

    private static void lastHour() {
        StampDuchy d = Due.told("duchy 5 0;kind 3 1;person 9 15 1 1;person 9 15 1 1;work 0;held 0 0");
        Due.pass(d, 998);
        DUE.is("hour 998", d.count(7), 998);
        d.begin(0, 0);
        DUE.is("the last", d.hour(), 0);
        DUE.is("hour 999", d.count(7), 999);
        int acts = d.count(12);
        DUE.is("no more", d.hour(), -1);
        DUE.is("no act", d.count(12), acts);
        DUE.is("awake in hour 999", d.count(10), 0);
        DUE.is("stops beyond", d.stops(0), 999);
        DUE.is("ahead beyond", d.ahead(0, 1, 0), -1);
        DUE.is("most beyond", d.most(2, 1), 999);
        DUE.is("image", d.image(0), 999);
    }

    private static void begins() {
        StampDuchy d = Due.told(Due.TOWN);
        DUE.is("one asleep", d.begin(2, 0), -1);
        DUE.is("one whose hands are full", d.begin(3, 1), -1);
        DUE.is("one who has not the price", d.begin(3, 2), -1);
        DUE.is("one that goes", d.begin(0, 2), -1);
        DUE.is("no work", d.begin(4, 2), -1);
        DUE.is("no work below", d.begin(-1, 2), -1);
        DUE.is("nobody", d.begin(2, 3), -1);
        DUE.is("nobody below", d.begin(2, -1), -1);
        DUE.is("no act", d.count(12), 0);
        Due.pass(d, 6);
        DUE.is("begin", d.begin(2, 0), 40);
        DUE.is("chest", d.count(1), 110);
        DUE.is("held", d.person(0, 4), 4);
        DUE.is("not sneaked", d.count(9), 0);
        DUE.is("begin the last", d.begin(3, 0), 36);
        DUE.is("chest then", d.count(1), 114);
        d = Due.told("duchy 0 0;kind 10 0;person 10 0 0 1;person 9 0 0 1;work 0");
        DUE.is("one less than the price", d.begin(0, 1), -1);
        DUE.is("just the price", d.begin(0, 0), 0);
    }

    private static void sneaks() {
        StampDuchy d = Due.told(Due.TOWN);
        DUE.is("one asleep", d.sneak(2, 0), -1);
        DUE.is("one whose hands are full", d.sneak(3, 1), -1);
        DUE.is("one that goes", d.sneak(0, 2), -1);
        DUE.is("no work", d.sneak(4, 2), -1);
        DUE.is("nobody", d.sneak(2, 3), -1);
        DUE.is("no act", d.count(12), 0);
        DUE.is("sneak", d.sneak(3, 2), 8);
        DUE.is("sneak too", d.sneak(2, 2), 12);
        DUE.is("purse", d.person(2, 0), 0);
        DUE.is("chest", d.count(1), 100);
        DUE.is("sneaked", d.work(3, 2), 1);
        DUE.is("held", d.person(2, 4), 12);
        DUE.is("acts", d.count(12), 2);
    }

    private static void hands() {
        StampDuchy d = Due.told(Due.TOWN);
        DUE.is("of one asleep", d.hand(0, 2), -1);
        DUE.is("to one asleep", d.hand(1, 0), -1);
        DUE.is("to the same", d.hand(1, 1), -1);
        DUE.is("one that lies", d.hand(2, 2), -1);
        DUE.is("no work", d.hand(4, 2), -1);
        DUE.is("to nobody", d.hand(1, 3), -1);
        DUE.is("to nobody below", d.hand(1, -1), -1);
        DUE.is("no act", d.count(12), 0);
        DUE.is("hand", d.hand(1, 2), 1);
        DUE.is("held", d.person(2, 4), 2);
        DUE.is("let go", d.person(1, 4), 0);
        d.sneak(3, 2);
        DUE.is("a sneaked one", d.hand(3, 1), 2);
        DUE.is("stays so", d.count(9), 8);
        DUE.is("to full hands", d.hand(1, 1), -1);
        DUE.is("acts", d.count(12), 3);
        // Who hands may have all hands full.
        d = Due.told("duchy 0 0;kind 0 0;person 0 0 0 1;person 0 0 0 1;work 0;held 0 0");
        DUE.is("of full hands", d.hand(0, 1), 0);
    }

    private static void drops() {
        StampDuchy d = Due.told(Due.TOWN);
        DUE.is("one that lies", d.drop(2), -1);
        DUE.is("no work", d.drop(4), -1);
        DUE.is("no work below", d.drop(-1), -1);
        DUE.is("no act", d.count(12), 0);
        DUE.is("of one asleep", d.drop(0), 0);
        DUE.is("it lies", d.work(0, 1), -1);
        DUE.is("it did not stop", d.work(0, 3), 0);
        d.sneak(3, 2);
        DUE.is("a sneaked one", d.drop(3), 2);
        DUE.is("not sneaked", d.count(9), 0);
        DUE.is("goes", d.count(8), 2);
        DUE.is("acts", d.count(12), 3);
    }

    private static void undos() {
        StampDuchy d = Due.told(Due.TOWN);
        DUE.is("none", d.undo(), -2);
        d.sneak(2, 2);
        d.drop(0);
        d.hand(2, 1);
        d.hour();
        d.hand(1, 2);
        DUE.is("acts", d.count(12), 4);
        d.seed(5);
        d.log(0, 0, 0);
        DUE.is("undo the hand", d.undo(), 3);
        DUE.is("held again", d.work(1, 1), 1);
        DUE.is("undo the hour", d.undo(), 2);
        DUE.is("hour", d.count(7), 0);
        DUE.is("purse 1", d.person(1, 0), 9);
        DUE.is("sneaked", d.count(9), 4);
        DUE.is("chest", d.count(1), 100);
        DUE.is("undo the drop", d.undo(), 1);
        DUE.is("held by one asleep", d.work(0, 1), 0);
        DUE.is("undo the sneak", d.undo(), 0);
        DUE.is("sneaked none", d.count(9), 0);
        DUE.is("lies", d.work(2, 1), -1);
        DUE.is("no more", d.undo(), -2);
        DUE.is("x is no act's", d.count(13), 5);
        DUE.is("logs are no act's", d.count(11), 1);
        Due.pass(d, 6);
        d.begin(2, 0);
        DUE.is("undo the begin", d.undo(), 6);
        DUE.is("price back", d.person(0, 0), 50);
        DUE.is("chest back", d.count(1), 100);
        Due.rule(d, "take 1");
        d.force(0);
        d.undo();
        DUE.is("the rule in force is no act's", d.count(6), 0);
    }

    private static void undoneAreTwenty() {
        StampDuchy d = Due.told(Due.TOWN);
        Due.pass(d, 25);
        DUE.is("twenty", d.count(12), 20);
        for (int left = 19; left >= 0; left--) {
            DUE.is("undo", d.undo(), left);
            DUE.is("hour", d.count(7), 5 + left);
        }
        DUE.is("no more", d.undo(), -2);
        DUE.is("hour 5 stays", d.count(7), 5);
        DUE.is("purse of hour 5", d.person(2, 0), 15);
        d.hour();
        DUE.is("acts again", d.count(12), 1);
        DUE.is("undone", d.undo(), 0);
        DUE.is("hour 5", d.count(7), 5);
    }

    private static void seeds() {
        StampDuchy d = new StampDuchy();
        DUE.is("seed", d.seed(7), 0);
        DUE.is("seed most", d.seed(2147483647), 7);
        DUE.is("below 0", d.seed(-1), -1);
        DUE.is("far below 0", d.seed(-2147483648), -1);
        DUE.is("it stays", d.seed(0), 2147483647);
    }

    private static void images() {
        StampDuchy d = new StampDuchy();
        DUE.is("never made", d.back(0), -1);
        DUE.is("below", d.image(-1), -1);
        DUE.is("above", d.image(4), -1);
        DUE.is("back below", d.back(-1), -1);
        DUE.is("back above", d.back(4), -1);
        DUE.is("of nothing", d.image(3), 0);
        Due.duchy(d, Due.TOWN);
        Due.pass(d, 4);
        DUE.is("of hour 4", d.image(0), 4);
        Due.pass(d, 3);
        DUE.is("of hour 7", d.image(1), 7);
        DUE.is("back to 4", d.back(0), 4);
        DUE.is("hour", d.count(7), 4);
        DUE.is("purse", d.person(2, 0), 12);
        DUE.is("undo in it", d.undo(), 3);
        DUE.is("hour 3", d.count(7), 3);
        DUE.is("the image is as it was", d.back(0), 4);
        DUE.is("acts", d.count(12), 4);
        DUE.is("back to 7", d.back(1), 7);
        DUE.is("acts then", d.count(12), 7);
        DUE.is("made anew", d.image(0), 7);
        DUE.is("back to the new", d.back(0), 7);
        DUE.is("back to nothing", d.back(3), 0);
        DUE.is("no duchy", d.hour(), -1);
        DUE.is("no people", d.count(3), 0);
        DUE.is("no undo", d.undo(), -2);
    }

    private static void imagesOfAll() {
        StampDuchy d = Due.ruled("take 1", Due.TOWN);
        d.seed(11);
        d.log(1, 0, 2);
        d.sneak(3, 2);
        d.image(2);
        Due.rule(d, "take 2");
        d.force(1);
        d.seed(12);
        d.log(-1, 0, 0);
        Due.duchy(d, "duchy 1 1;kind 1 1");
        d.feed(0, 0, 0, 0, 0);
        DUE.is("back", d.back(2), 0);
        DUE.is("rule in force", d.count(6), 0);
        DUE.is("rules stay", d.count(5), 2);
        DUE.is("the tape stays", d.count(14), 20);
        DUE.is("x", d.count(13), 11);
        DUE.is("logs", d.count(11), 1);
        DUE.is("ruled", d.ruled(0), 3);
        DUE.is("sneaked", d.count(9), 8);
        DUE.is("price", d.kind(0, 0), 10);
        DUE.is("acts", d.count(12), 1);
        DUE.is("after", d.work(3, 4), 4);
        DUE.is("undo", d.undo(), 0);
        DUE.is("sneaked none", d.count(9), 0);
        d.end(0);
        Due.duchy(d, "duchy 1 1;kind 1 1");
        DUE.is("an image outlives its duchy", d.back(2), 0);
        DUE.is("works", d.count(4), 4);
    }

    /** Images keep what was done and logged, also when the object has done and logged other things since. */
    private static void imagesKeepTheirOwn() {
        StampDuchy d = new StampDuchy();
        d.image(3);
        Due.duchy(d, Due.HANDING);
        Due.rule(d, "take person");
        d.log(0, 1, 2);
        d.log(30, 0, -1);
        Due.pass(d, 2);
        d.drop(2);
        d.image(0);
        d.back(3);
        Due.duchy(d, Due.TOWN);
        d.log(9, 2, 0);
        d.log(8, 3, 1);
        Due.pass(d, 19);
        d.back(0);
        DUE.is("ruled by its logs", d.ruled(0), 1);
        DUE.is("rule 0", d.ruled(1), 0);
        d.log(0, 1, 1);
        DUE.is("a log more", d.ruled(0), 0);
        DUE.is("logs", d.count(11), 3);
        DUE.is("undo the drop", d.undo(), 2);
        DUE.is("held", d.work(2, 1), 2);
        DUE.is("undo an hour", d.undo(), 1);
        DUE.is("purse in hour 1", d.person(2, 0), 27);
        DUE.is("undo all", d.undo(), 0);
        DUE.is("held at the begin", d.work(1, 1), 0);
        DUE.is("purse at the begin", d.person(2, 0), 20);
        d.back(0);
        DUE.is("logs of the image", d.count(11), 2);
        DUE.is("it is as it was", d.ruled(1), 0);
    }
}
