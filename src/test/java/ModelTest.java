import java.nio.charset.StandardCharsets;
import java.util.Random;

/** Many runs of calls by fixed seeds, each answer held against the model's. */
public final class ModelTest {
    private static final int RUNS = 2000;
    /** The document promises nothing behind these. */
    private static final int MOST_CALLS = 512;
    /** What call() makes at most: a look around. */
    private static final int CALLS_OF_A_LOOK = 63;

    private final Checks checks;
    private final Random random;
    private final TextMaker maker;
    private final int run;
    private final WrongEnd x;
    private final Model m;
    private int calls = 0;

    private ModelTest(Checks checks, int run) {
        this.checks = checks;
        this.run = run;
        random = new Random(run);
        maker = new TextMaker(random);
        int w = random.nextInt(20) == 0 ? random.nextInt() : run % 3 == 0 ? 1 + random.nextInt(4) : 1 + random.nextInt(2);
        int h = random.nextInt(20) == 0 ? random.nextInt() : run % 3 == 0 ? 1 + random.nextInt(4) : 1 + random.nextInt(2);
        x = new WrongEnd(w, h);
        m = new Model(w, h);
    }

    public static void main(String[] args) {
        Checks checks = new Checks();
        for (int run = 0; run < RUNS && checks.allDue(); run++) {
            ModelTest test = new ModelTest(checks, run);
            test.begin();
            while (test.calls + 2 * CALLS_OF_A_LOOK <= MOST_CALLS && checks.allDue()) {
                test.call();
            }
            test.lookAround();
        }
        checks.finish("ModelTest");
    }

    private void due(String call, long got, long want) {
        calls++;
        checks.due("run " + run + ": " + call, got, want);
    }

    private void due(String call, boolean got, boolean want) {
        calls++;
        checks.due("run " + run + ": " + call, got, want);
    }

    private int few(int bound) {
        int kind = random.nextInt(40);
        if (kind == 0) {
            return new int[] {Integer.MIN_VALUE, Integer.MAX_VALUE, -2, bound, bound + 1}[random.nextInt(5)];
        }
        return kind == 1 ? -1 : random.nextInt(bound);
    }

    private int oneOrAny(int bound) {
        return random.nextInt(3) == 0 ? -1 : few(bound);
    }

    private int state() {
        return few(8 * m.about(0) * m.about(1));
    }

    private int cell() {
        return few(m.about(0) * m.about(1));
    }

    private int scopes() {
        return Math.max(1, m.about(2));
    }

    /** So that most runs have something to weigh from the start. */
    private void begin() {
        int scopes = random.nextInt(5);
        for (int i = 0; i < scopes; i++) {
            scope();
        }
        if (random.nextInt(4) > 0) {
            newText(maker.sound());
            by(0);
        }
    }

    private void scope() {
        int cell = cell();
        due("scope(" + cell + ")", x.scope(cell), m.scope(cell));
    }

    private void by(int text) {
        due("by(" + text + ")", x.by(text), m.by(text));
    }

    private void newText(String text) {
        byte[] bytes = text.getBytes(StandardCharsets.ISO_8859_1);
        due("end(0)", x.end(0), m.end(0));
        for (int at = 0; at < bytes.length; at += 20) {
            feed(Feeder.four(bytes, at), Feeder.four(bytes, at + 4), Feeder.four(bytes, at + 8),
                    Feeder.four(bytes, at + 12), Feeder.four(bytes, at + 16));
        }
        due("end(" + bytes.length + ")", x.end(bytes.length), m.end(bytes.length));
        due("text() of " + text, x.text(), m.text());
        for (int what = -1; what < 3; what++) {
            due("fault(" + what + ") of " + text, x.fault(what), m.fault(what));
        }
    }

    private void feed(int a, int b, int c, int d, int e) {
        due("feed", x.feed(a, b, c, d, e), m.feed(a, b, c, d, e));
    }

    private void call() {
        int kind = random.nextInt(100);
        if (kind < 30) {
            change(kind);
        } else if (kind < 36) {
            newText(random.nextInt(3) == 0 ? maker.sound() : maker.spoilt());
        } else if (kind < 38) {
            feed(random.nextInt(), 0x20202020, random.nextInt(), 0x0a0a0a0a, random.nextInt());
        } else if (kind < 40) {
            int n = few(300);
            due("end(" + n + ")", x.end(n), m.end(n));
        } else if (kind < 70) {
            ask(kind);
        } else {
            weighing(kind);
        }
    }

    private void change(int kind) {
        int scope = few(scopes());
        boolean is = random.nextBoolean();
        if (kind < 3) {
            int cell = cell();
            int height = few(10);
            due("hill(" + cell + ", " + height + ")", x.hill(cell, height), m.hill(cell, height));
        } else if (kind < 5) {
            scope();
        } else if (kind < 10) {
            due("turn(" + scope + ", " + is + ")", x.turn(scope, is), m.turn(scope, is));
        } else if (kind < 15) {
            is = random.nextInt(3) == 0;
            due("lend(" + scope + ", " + is + ")", x.lend(scope, is), m.lend(scope, is));
        } else if (kind < 17) {
            due("undo()", x.undo(), m.undo());
        } else if (kind < 20) {
            by(random.nextInt(8) == 0 ? -1 : few(Math.max(1, m.about(3))));
        } else if (kind < 26) {
            report(scope);
        } else if (kind < 27) {
            due("forget()", x.forget(), m.forget());
        } else if (kind < 28) {
            due("image()", x.image(), m.image());
        } else if (kind < 29) {
            due("back()", x.back(), m.back());
        } else {
            lookAround();
        }
    }

    /** Most reports are such as a state could make, so that not all weights are soon 0. */
    private void report(int scope) {
        int hour = few(24);
        boolean turned = m.about(30 + Math.max(0, Math.min(7, scope))) / 10 % 10 == 1;
        int state = Math.max(0, Math.min(m.likely(m.about(5)), 8 * m.about(0) * m.about(1) - 1));
        int seen = m.sees(scope, turned, state, hour, false);
        int tells = random.nextInt(4) == 0 ? few(10) : random.nextInt(4) == 0 ? (seen + 1) % 10 : seen;
        due("report(" + scope + ", " + hour + ", " + tells + ")", x.report(scope, hour, tells),
                m.report(scope, hour, tells));
    }

    private void ask(int kind) {
        int state = state();
        int scope = few(scopes());
        int hour = few(24);
        boolean turned = random.nextBoolean();
        boolean slip = random.nextBoolean();
        if (kind < 45) {
            due("prior(" + state + ")", x.prior(state), m.prior(state));
        } else if (kind < 53) {
            due("sees(" + scope + ", " + turned + ", " + state + ", " + hour + ", " + slip + ")",
                    x.sees(scope, turned, state, hour, slip), m.sees(scope, turned, state, hour, slip));
        } else if (kind < 60) {
            int seed = few(10000);
            int n = few(11);
            int k = few(20);
            due("spied(" + seed + ", " + state + ", " + hour + ", " + n + ", " + k + ")",
                    x.spied(seed, state, hour, n, k), m.spied(seed, state, hour, n, k));
        } else if (kind < 65) {
            int what = random.nextInt(8) == 0 ? random.nextInt() : few(60);
            due("about(" + what + ")", x.about(what), m.about(what));
        } else {
            int what = few(2);
            due("fault(" + what + ")", x.fault(what), m.fault(what));
        }
    }

    private void weighing(int kind) {
        int k = random.nextInt(2) == 0 ? m.about(5) : few(m.about(5) + 1);
        int hour = few(24);
        if (kind < 78) {
            int state = state();
            due("weight(" + state + ", " + k + ")", x.weight(state, k), m.weight(state, k));
        } else if (kind < 83) {
            odds(k);
        } else if (kind < 86) {
            due("likely(" + k + ")", x.likely(k), m.likely(k));
        } else if (kind < 90) {
            int one = few(2 * scopes());
            int other = oneOrAny(2 * scopes());
            due("sure(" + one + ", " + other + ", " + hour + ")", x.sure(one, other, hour), m.sure(one, other, hour));
        } else if (kind < 94) {
            boolean both = random.nextInt(6) == 0 && m.about(0) * m.about(1) < 10;
            int what = random.nextInt(both ? 2 : 1) + (random.nextInt(10) == 0 ? 1 : 0);
            due("ask(" + hour + ", " + both + ", " + what + ")", x.ask(hour, both, what), m.ask(hour, both, what));
        } else if (kind < 96) {
            due("eighth(" + hour + ")", x.eighth(hour), m.eighth(hour));
        } else {
            int n = few(6);
            int what = few(3);
            due("does(" + n + ", " + what + ")", x.does(n, what), m.does(n, what));
        }
    }

    private void odds(int k) {
        int cell = random.nextBoolean() ? -1 : cell();
        int size = oneOrAny(5);
        int paints = oneOrAny(2);
        int what = few(2);
        due("odds(" + k + ", " + cell + ", " + size + ", " + paints + ", " + what + ")",
                x.odds(k, cell, size, paints, what), m.odds(k, cell, size, paints, what));
    }

    private void lookAround() {
        for (int what = -3; what < 60; what++) {
            due("about(" + what + ")", x.about(what), m.about(what));
        }
    }
}
