/** Counts answers that are not as due, and puts texts on a tape. */
final class Due {
    /** Person 0 sleeps from 22 on for 8 hours, 1 from 6 on for 4, 2 never. */
    static final String TOWN = "duchy 7 100;kind 10 3;kind 4 1;person 50 22 8 2;person 9 6 4 1;"
        + "person 0 0 0 3;work 0;work 1;work 0;work 1;held 0 0;held 1 1;after 1 0;after 2 0;after 3 2";
    /** Person 0 falls asleep in hour 0, and has to hand on work 1; 1 or 2 may take it. */
    static final String HANDING = "duchy 0 0;kind 12 3;kind 5 7;person 40 0 1 1;person 30 5 2 2;"
        + "person 20 0 0 3;work 0;work 1;work 1;held 1 0;held 2 2";
    /** As much of everything as there can be; each sleeper hands on what is held. */
    static final String FULL = "duchy 5 100;kind 10 1;kind 20 2;kind 30 3;kind 40 4;kind 50 5;person 100 22 8 2;"
        + "person 90 6 4 2;person 80 12 2 2;person 70 0 0 3;work 0;work 1;work 2;work 3;work 4;work 0;"
        + "held 0 1;held 1 1;held 2 2;held 3 2;held 4 3;held 5 3;after 1 0;after 2 1;after 3 2;after 4 3;after 5 4";

    private int wrong;
    private int asked;

    void is(String call, long got, long want) {
        asked++;
        if (got != want) {
            wrong++;
            if (wrong <= 50) {
                System.out.println(call + " answered " + got + ", due is " + want);
            }
        }
    }

    boolean allRight() {
        return wrong == 0;
    }

    void finish() {
        System.out.println(asked + " answers, " + wrong + " not as due");
        if (wrong != 0) {
            System.exit(1);
        }
    }

    /** The five numbers that feed the twenty bytes of a text from a place on, zeros behind its end. */
    static int[] numbers(String text, int from) {
        int[] numbers = new int[5];
        for (int i = 0; i < 20; i++) {
            int place = from + i;
            int sign = place < text.length() ? text.charAt(place) & 255 : 0;
            numbers[i / 4] |= sign << (24 - 8 * (i % 4));
        }
        return numbers;
    }

    /** Puts a text on the tape, which has to be empty. */
    static void tape(StampDuchy duchy, String text) {
        for (int from = 0; from < text.length(); from += 20) {
            int[] n = numbers(text, from);
            duchy.feed(n[0], n[1], n[2], n[3], n[4]);
        }
        duchy.end(text.length());
    }

    static int duchy(StampDuchy duchy, String text) {
        tape(duchy, text);
        return duchy.duchy();
    }

    static int rule(StampDuchy duchy, String text) {
        tape(duchy, text);
        return duchy.rule();
    }

    static String times(String text, int number) {
        StringBuilder all = new StringBuilder();
        for (int i = 0; i < number; i++) {
            all.append(text);
        }
        return all.toString();
    }

    /** What duchy or rule answer to a fault. */
    static int fault(int place, int code) {
        return -2 - (1 + 8 * place + code);
    }

    static StampDuchy told(String text) {
        StampDuchy made = new StampDuchy();
        if (duchy(made, text) < 0) {
            throw new IllegalStateException(text);
        }
        return made;
    }

    /** A duchy that goes by a rule. */
    static StampDuchy ruled(String rule, String text) {
        StampDuchy made = told(text);
        if (rule(made, rule) != 0) {
            throw new IllegalStateException(rule);
        }
        made.force(0);
        return made;
    }

    static void pass(StampDuchy made, int hours) {
        for (int i = 0; i < hours; i++) {
            made.hour();
        }
    }
}
