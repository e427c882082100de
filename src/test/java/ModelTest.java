import java.util.Random;

/** Random runs of calls, each call made of the program and of the model too. */
public final class ModelTest {
    private static final int RUNS = 1500;
    private static final String[] VALUES = {"person", "work", "kind", "worth", "price", "purse", "holds", "hands",
        "hour", "awake", "sneaked", "stopped"};

    private final Due due = new Due();
    private Random random;
    private StampDuchy program;
    private Model model;
    private int run;

    public static void main(String[] args) {
        int runs = args.length > 0 ? Integer.parseInt(args[0]) : RUNS;
        new ModelTest().all(runs);
    }

    private void all(int runs) {
        for (run = 0; run < runs && due.allRight(); run++) {
            random = new Random(run);
            program = new StampDuchy();
            model = new Model();
            int calls = 0;
            if (random.nextInt(10) > 0) {
                tell(false, duchyText());
            }
            while (calls < 400) {
                call();
                calls++;
            }
            everyState();
        }
        due.finish();
    }

    private int below(int n) {
        return random.nextInt(n);
    }

    /** Mostly within 0 and below n, sometimes at its edges and outside. */
    private int about(int n) {
        int dice = below(30);
        if (dice == 0) {
            return -1 - below(3);
        }
        if (dice == 1) {
            return n + below(2);
        }
        if (dice == 2) {
            return random.nextInt();
        }
        return dice == 3 ? n - 1 : below(n);
    }

    private void tell(boolean asRule, String text) {
        String cut = text.length() > 400 ? text.substring(0, 400) : text;
        due.is(run + " end(0)", program.end(0), model.end(0));
        for (int from = 0; from < cut.length(); from += 20) {
            int[] n = Due.numbers(cut, from);
            due.is(run + " feed", program.feed(n[0], n[1], n[2], n[3], n[4]), model.feed(n));
        }
        due.is(run + " end", program.end(cut.length()), model.end(cut.length()));
        if (asRule) {
            due.is(run + " rule of " + cut, program.rule(), model.rule());
        } else {
            due.is(run + " duchy of " + cut, program.duchy(), model.duchy());
        }
    }

    private String duchyText() {
        StringBuilder text = new StringBuilder();
        text.append("duchy ").append(below(100)).append(' ').append(below(3) == 0 ? 9999 - below(5) : below(50));
        int kinds = 1 + below(5);
        for (int i = 0; i < kinds; i++) {
            text.append(";kind ").append(below(2) == 0 ? below(100) : below(15)).append(' ').append(below(10));
        }
        int people = 1 + below(4);
        for (int i = 0; i < people; i++) {
            int span = below(6) == 0 ? below(25) : below(12);
            text.append(";person ").append(below(4) == 0 ? below(1000) : below(60)).append(' ').append(below(24));
            text.append(' ').append(span).append(' ').append(1 + below(3));
        }
        int works = 1 + below(6);
        for (int i = 0; i < works; i++) {
            text.append(";work ").append(below(kinds));
        }
        for (int i = 0; i < works; i++) {
            if (below(2) == 0) {
                text.append(";held ").append(i).append(' ').append(below(people));
            }
        }
        int afters = below(14);
        for (int i = 0; i < afters && works > 1; i++) {
            int work = below(works);
            int from = (work + 1 + below(works - 1)) % works;
            text.append(";after ").append(work).append(' ').append(from);
        }
        return text.toString();
    }

    private String sum() {
        StringBuilder text = new StringBuilder(one());
        while (below(2) == 0) {
            text.append("+-*/%".charAt(below(5))).append(one());
        }
        return text.toString();
    }

    private String one() {
        return below(3) > 0 ? VALUES[below(VALUES.length)] : String.valueOf(below(4) == 0 ? below(100000) : below(12));
    }

    private String test(int depth) {
        StringBuilder text = new StringBuilder(fact(depth));
        while (below(3) == 0) {
            text.append(below(2) == 0 ? " and " : " or ").append(fact(depth));
        }
        return text.toString();
    }

    private String fact(int depth) {
        int dice = below(5);
        if (dice == 0 && depth < 12) {
            return "not " + fact(depth + 1);
        }
        if (dice == 1 && depth < 12) {
            return "[" + test(depth + 1) + "]";
        }
        String[] signs = {"<", "<=", "=", ">=", ">"};
        return sum() + signs[below(5)] + sum();
    }

    private String ruleText() {
        StringBuilder text = new StringBuilder();
        int clauses = below(20) == 0 ? 13 : 1 + below(4);
        for (int i = 0; i < clauses; i++) {
            text.append(i == 0 ? "take " : ";take ").append(sum());
            if (below(3) > 0) {
                text.append(" if ").append(test(0));
            }
        }
        return text.toString();
    }

    /** One or two small things wrong, or only blanks moved. */
    private String spoilt(String text) {
        StringBuilder spoilt = new StringBuilder(text);
        String signs = "0123456789 ;[]<=>+-*/%aeinotfkw\u0000\u00ff,A(";
        for (int i = below(3); i >= 0 && spoilt.length() > 0; i--) {
            int place = below(spoilt.length());
            char sign = signs.charAt(below(signs.length()));
            switch (below(4)) {
                case 0: spoilt.setCharAt(place, sign); break;
                case 1: spoilt.insert(place, sign); break;
                case 2: spoilt.deleteCharAt(place); break;
                default: spoilt.insert(place, ' '); break;
            }
        }
        if (below(10) == 0) {
            spoilt.setLength(below(spoilt.length() + 1));
        }
        return spoilt.toString();
    }

    private void call() {
        int dice = below(100);
        if (dice < 2) {
            tell(false, duchyText());
        } else if (dice < 6) {
            tell(false, spoilt(duchyText()));
        } else if (dice < 10) {
            String text = ruleText();
            tell(true, below(2) == 0 ? text : spoilt(text));
        } else if (dice < 45) {
            act();
        } else if (dice < 75) {
            askAhead();
        } else {
            askAll();
        }
    }

    private void act() {
        int a = about(6);
        int b = about(4);
        switch (below(8)) {
            case 0: due.is(run + " begin " + a + " " + b, program.begin(a, b), model.begin(a, b)); break;
            case 1: due.is(run + " sneak " + a + " " + b, program.sneak(a, b), model.sneak(a, b)); break;
            case 2: due.is(run + " hand " + a + " " + b, program.hand(a, b), model.hand(a, b)); break;
            case 3:
                if (below(3) == 0) {
                    due.is(run + " drop " + a, program.drop(a), model.drop(a));
                }
                break;
            case 4:
                for (int i = below(3) == 0 ? below(30) : 1; i >= 0; i--) {
                    due.is(run + " undo", program.undo(), model.undo());
                }
                break;
            case 5: due.is(run + " force " + b, program.force(b), model.force(b)); break;
            default:
                for (int i = below(40) == 0 ? 300 : below(10); i >= 0; i--) {
                    due.is(run + " hour", program.hour(), model.hour());
                }
                break;
        }
    }

    private void askAhead() {
        int work = about(6);
        int person = about(4);
        int kind = about(5);
        int what = about(2);
        int n = about(49);
        switch (below(9)) {
            case 0: {
                int w = about(3);
                int far = about(101);
                due.is(run + " ahead " + work + " " + far + " " + w, program.ahead(work, far, w), model.ahead(work, far, w));
                break;
            }
            case 1: due.is(run + " stops " + work, program.stops(work), model.stops(work)); break;
            case 2: due.is(run + " save " + person + " " + kind, program.save(person, kind), model.save(person, kind)); break;
            case 3:
                for (int k = -2; k <= 48; k++) {
                    due.is(run + " relay " + work + " " + n + " " + k, program.relay(work, n, k), model.relay(work, n, k));
                }
                break;
            case 4: due.is(run + " most " + n, program.most(n, what), model.most(n, what)); break;
            case 5:
                for (int k = -1; k <= 8; k++) {
                    due.is(run + " chains " + k, program.chains(k), model.chains(k));
                }
                break;
            case 6: due.is(run + " tariff " + kind + " " + what, program.tariff(kind, what), model.tariff(kind, what)); break;
            case 7: due.is(run + " help " + n + " " + what, program.help(n, what), model.help(n, what)); break;
            default: due.is(run + " value " + work + " " + n, program.value(work, n), model.value(work, n)); break;
        }
    }

    private void askAll() {
        int work = about(6);
        int person = about(5) - 1;
        int what = about(2);
        int k = about(4);
        int n = about(61);
        switch (below(9)) {
            case 0: due.is(run + " watch", program.watch(n / 2), model.watch(n / 2)); break;
            case 1: logTruly(n, work, person); break;
            case 2: due.is(run + " ruled " + what, program.ruled(what), model.ruled(what)); break;
            case 3: due.is(run + " look " + n + " " + what, program.look(n, what), model.look(n, what)); break;
            case 4: {
                int x = about(Integer.MAX_VALUE);
                due.is(run + " seed " + x, program.seed(x), model.seed(x));
                break;
            }
            case 5: {
                int m = about(11);
                int p = below(2) == 0 ? about(101) : below(10);
                due.is(run + " nights " + m + " " + n + " " + p + " " + what, program.nights(m, n, p, what),
                    model.nights(m, n, p, what));
                break;
            }
            case 6: due.is(run + " image " + k, program.image(k), model.image(k)); break;
            case 7: due.is(run + " back " + k, program.back(k), model.back(k)); break;
            default: everyState(); break;
        }
    }

    /** Logs that are so by some rule, else soon no rule would fit any more. */
    private void logTruly(int n, int work, int person) {
        if (below(12) == 0) {
            due.is(run + " log none", program.log(-1, work, person), model.log(-1, work, person));
            return;
        }
        for (int p = -2; p <= 4; p++) {
            program.image(3);
            model.image(3);
            int logs = program.log(n, work, below(4) == 0 ? person : p);
            program.back(3);
            due.is(run + " logs", program.count(11), model.count(11));
            due.is(run + " log " + n + " " + work + " " + p, program.log(n, work, p), model.log(n, work, p));
            boolean some = model.ruled(0) > 0;
            due.is(run + " ruled 0", program.ruled(0), model.ruled(0));
            if (some && logs != -2 && below(3) > 0) {
                return;
            }
            program.back(3);
            model.back(3);
        }
    }

    private void everyState() {
        for (int what = -1; what <= 15; what++) {
            due.is(run + " count " + what, program.count(what), model.count(what));
        }
        for (int i = -1; i <= 6; i++) {
            for (int what = -1; what <= 6; what++) {
                due.is(run + " kind " + i + " " + what, program.kind(i, what), model.kind(i, what));
                due.is(run + " person " + i + " " + what, program.person(i, what), model.person(i, what));
                due.is(run + " work " + i + " " + what, program.work(i, what), model.work(i, what));
            }
        }
    }
}
