import java.math.BigInteger;
import java.util.ArrayDeque;
import java.util.ArrayList;
import java.util.Arrays;
import java.util.Collections;
import java.util.HashMap;
import java.util.List;
import java.util.Map;

/** A second reading of the document, slow and by its words alone, to hold the program against. */
final class Model {
    record Scope(int cell, boolean turned, boolean lent) {
    }

    record Report(int scope, boolean turned, int hour, int tells) {
    }

    record Step(int scope, Scope before) {
    }

    record All(List<Integer> hills, List<Scope> scopes, List<Map<String, ModelText.Sum>> texts, int ruling,
            List<Report> reports, List<Step> steps) {
    }

    private final int w;
    private final int h;
    private List<Integer> hills = new ArrayList<>();
    private List<Scope> scopes = new ArrayList<>();
    private List<Map<String, ModelText.Sum>> texts = new ArrayList<>();
    private int ruling = -1;
    private List<Report> reports = new ArrayList<>();
    private ArrayDeque<Step> steps = new ArrayDeque<>();
    private byte[] tape = new byte[0];
    private int[] latestFault = {-1, -1};
    private All image;

    Model(int w, int h) {
        this.w = w < 1 ? 1 : w > 4 ? 4 : w;
        this.h = h < 1 ? 1 : h > 4 ? 4 : h;
        for (int i = 0; i < this.w * this.h; i++) {
            hills.add(0);
        }
        image();
    }

    private boolean cellOk(int cell) {
        return 0 <= cell && cell < w * h;
    }

    private boolean scopeOk(int scope) {
        return 0 <= scope && scope < scopes.size();
    }

    private boolean stateOk(int state) {
        return 0 <= state && state < 8 * w * h;
    }

    private static boolean between(int low, int number, int high) {
        return low <= number && number <= high;
    }

    boolean hill(int cell, int height) {
        if (!cellOk(cell) || !between(0, height, 9)) {
            return false;
        }
        hills.set(cell, height);
        return true;
    }

    int scope(int cell) {
        if (!cellOk(cell) || scopes.size() == 8) {
            return -1;
        }
        scopes.add(new Scope(cell, false, false));
        return scopes.size() - 1;
    }

    boolean turn(int scope, boolean is) {
        return scopeOk(scope) && become(scope, new Scope(scopes.get(scope).cell, is, scopes.get(scope).lent));
    }

    boolean lend(int scope, boolean is) {
        return scopeOk(scope) && become(scope, new Scope(scopes.get(scope).cell, scopes.get(scope).turned, is));
    }

    private boolean become(int scope, Scope after) {
        Scope before = scopes.set(scope, after);
        if (!before.equals(after)) {
            steps.addLast(new Step(scope, before));
            if (steps.size() > 20) {
                steps.removeFirst();
            }
        }
        return true;
    }

    int undo() {
        if (steps.isEmpty()) {
            return -1;
        }
        Step step = steps.removeLast();
        scopes.set(step.scope, step.before);
        return step.scope;
    }

    int feed(int a, int b, int c, int d, int e) {
        if (tape.length > 280) {
            return -1;
        }
        int at = tape.length;
        tape = Arrays.copyOf(tape, at + 20);
        for (int four : new int[] {a, b, c, d, e}) {
            tape[at++] = (byte) (four >> 24);
            tape[at++] = (byte) (four >> 16);
            tape[at++] = (byte) (four >> 8);
            tape[at++] = (byte) four;
        }
        return tape.length;
    }

    int end(int n) {
        if (!between(0, n, tape.length)) {
            return -1;
        }
        tape = Arrays.copyOf(tape, n);
        return n;
    }

    int text() {
        if (texts.size() == 4) {
            return -1;
        }
        ModelText read = new ModelText(tape);
        tape = new byte[0];
        latestFault = new int[] {read.fault, read.place};
        if (read.fault != 0) {
            return -1;
        }
        texts.add(read.clauses);
        return texts.size() - 1;
    }

    int fault(int what) {
        return between(0, what, 1) ? latestFault[what] : -1;
    }

    boolean by(int text) {
        if (!between(-1, text, texts.size() - 1)) {
            return false;
        }
        ruling = text;
        return true;
    }

    private int told(String clause, int without, int most, Map<String, Integer> names) {
        if (ruling == -1 || !texts.get(ruling).containsKey(clause)) {
            return without;
        }
        long number = texts.get(ruling).get(clause).of(names).longValueExact();
        return (int) (number < 0 ? 0 : number > most ? most : number);
    }

    private Map<String, Integer> names(int state) {
        Map<String, Integer> names = new HashMap<>();
        int cell = state >> 3;
        names.put("x", cell % w);
        names.put("y", cell / w);
        names.put("size", (state >> 1 & 3) + 1);
        names.put("paints", state & 1);
        names.put("hill", hills.get(cell));
        return names;
    }

    private Map<String, Integer> names(int state, int scope, int cell, boolean turned, int hour) {
        Map<String, Integer> names = names(state);
        names.put("hour", hour);
        names.put("scope", scope);
        names.put("turned", turned ? 1 : 0);
        names.put("far", Math.abs(cell % w - names.get("x")) + Math.abs(cell / w - names.get("y")));
        return names;
    }

    int prior(int state) {
        return stateOk(state) ? told("prior", 1, 99, names(state)) : -1;
    }

    private int[] seenAndSlip(int state, int scope, int cell, boolean turned, int hour) {
        Map<String, Integer> names = names(state, scope, cell, turned, hour);
        return new int[] {told("sees", turned ? 0 : names.get("size"), 9, names), told("slip", 0, 9, names)};
    }

    int sees(int scope, boolean turned, int state, int hour, boolean slip) {
        if (!scopeOk(scope) || !stateOk(state) || !between(0, hour, 23)) {
            return -1;
        }
        return seenAndSlip(state, scope, scopes.get(scope).cell, turned, hour)[slip ? 1 : 0];
    }

    int report(int scope, int hour, int tells) {
        boolean fine = scopeOk(scope) && !scopes.get(scope).lent && between(0, hour, 23) && between(0, tells, 9)
                && reports.size() < 10;
        if (!fine) {
            return -1;
        }
        reports.add(new Report(scope, scopes.get(scope).turned, hour, tells));
        return reports.size();
    }

    int forget() {
        int were = reports.size();
        reports = new ArrayList<>();
        return were;
    }

    private static int chance(int tells, int[] seenAndSlip) {
        int chance = 0;
        if (tells == seenAndSlip[0]) {
            chance = 10 - seenAndSlip[1];
        }
        if (tells == (seenAndSlip[0] == 9 ? 0 : seenAndSlip[0] + 1)) {
            chance = seenAndSlip[1];
        }
        return chance;
    }

    private BigInteger weighed(int state, int k) {
        BigInteger weight = BigInteger.valueOf(prior(state));
        for (Report r : reports.subList(0, k)) {
            int[] view = seenAndSlip(state, r.scope, scopes.get(r.scope).cell, r.turned, r.hour);
            weight = weight.multiply(BigInteger.valueOf(chance(r.tells, view)));
        }
        return weight;
    }

    private List<BigInteger> allWeighed(int k) {
        List<BigInteger> all = new ArrayList<>();
        for (int state = 0; state < 8 * w * h; state++) {
            all.add(weighed(state, k));
        }
        return all;
    }

    private static BigInteger sum(List<BigInteger> numbers) {
        return numbers.stream().reduce(BigInteger.ZERO, BigInteger::add);
    }

    long weight(int state, int k) {
        return stateOk(state) && between(0, k, reports.size()) ? weighed(state, k).longValueExact() : -1;
    }

    long odds(int k, int cell, int size, int paints, int what) {
        boolean fine = between(0, k, reports.size()) && (cell == -1 || cellOk(cell))
                && (size == -1 || between(1, size, 4)) && between(-1, paints, 1) && between(0, what, 1);
        if (!fine) {
            return -1;
        }
        List<BigInteger> all = allWeighed(k);
        BigInteger some = BigInteger.ZERO;
        for (int state = 0; state < all.size(); state++) {
            Map<String, Integer> names = names(state);
            int itsCell = names.get("x") + w * names.get("y");
            if ((cell == -1 || cell == itsCell) && (size == -1 || size == names.get("size"))
                    && (paints == -1 || paints == names.get("paints"))) {
                some = some.add(all.get(state));
            }
        }
        return lowest(some, sum(all), what);
    }

    private static long lowest(BigInteger upper, BigInteger lower, int what) {
        if (lower.signum() == 0) {
            return -1;
        }
        return (what == 0 ? upper : lower).divide(upper.gcd(lower)).longValueExact();
    }

    int likely(int k) {
        if (!between(0, k, reports.size())) {
            return -1;
        }
        List<BigInteger> all = allWeighed(k);
        BigInteger greatest = all.stream().reduce(BigInteger.ZERO, BigInteger::max);
        return greatest.signum() == 0 ? -1 : all.indexOf(greatest);
    }

    /** By the definition: over all that they can tell, the greatest of weight times chances. */
    private BigInteger surely(List<int[][]> views) {
        List<BigInteger> all = allWeighed(reports.size());
        int ways = views.size() == 1 ? 10 : 100;
        BigInteger sum = BigInteger.ZERO;
        for (int way = 0; way < ways; way++) {
            BigInteger greatest = BigInteger.ZERO;
            for (int state = 0; state < all.size(); state++) {
                long chance = chance(way % 10, views.get(0)[state]);
                if (views.size() == 2) {
                    chance *= chance(way / 10, views.get(1)[state]);
                }
                greatest = greatest.max(all.get(state).multiply(BigInteger.valueOf(chance)));
            }
            sum = sum.add(greatest);
        }
        return sum;
    }

    private int[][] view(int scope, int cell, boolean turned, int hour) {
        int[][] view = new int[8 * w * h][];
        for (int state = 0; state < view.length; state++) {
            view[state] = seenAndSlip(state, scope, cell, turned, hour);
        }
        return view;
    }

    private int[][] view(int hold, int hour) {
        return view(hold / 2, scopes.get(hold / 2).cell, hold % 2 == 1, hour);
    }

    private boolean holdOk(int hold) {
        return hold >= 0 && scopeOk(hold / 2) && !scopes.get(hold / 2).lent;
    }

    long sure(int one, int other, int hour) {
        if (!between(0, hour, 23) || !holdOk(one)) {
            return -1;
        }
        if (other == -1) {
            return surely(Collections.singletonList(view(one, hour))).longValueExact();
        }
        if (!holdOk(other) || one / 2 == other / 2) {
            return -1;
        }
        return surely(List.of(view(one, hour), view(other, hour))).longValueExact();
    }

    int ask(int hour, boolean both, int what) {
        if (!between(0, hour, 23) || !between(0, what, both ? 1 : 0)) {
            return -1;
        }
        long greatest = -1;
        int[] best = {-1, -1};
        for (int one = 0; one < 2 * scopes.size(); one++) {
            for (int other = both ? one + 1 : -1; other < (both ? 2 * scopes.size() : 0); other++) {
                long sure = sure(one, other, hour);
                if (sure > greatest) {
                    greatest = sure;
                    best = new int[] {one, other};
                }
            }
        }
        return best[what];
    }

    int eighth(int hour) {
        if (!between(0, hour, 23) || scopes.size() == 8) {
            return -1;
        }
        List<BigInteger> sures = new ArrayList<>();
        for (int cell = 0; cell < w * h; cell++) {
            sures.add(surely(Collections.singletonList(view(scopes.size(), cell, false, hour))));
        }
        return sures.indexOf(sures.stream().reduce(BigInteger.ZERO, BigInteger::max));
    }

    long does(int n, int what) {
        if (!between(1, n, 5) || !between(0, what, 2)) {
            return -1;
        }
        List<BigInteger> all = allWeighed(reports.size());
        if (sum(all).signum() == 0) {
            return -1;
        }
        List<BigInteger> costs = new ArrayList<>();
        for (int act = 0; act < n; act++) {
            BigInteger cost = BigInteger.ZERO;
            for (int state = 0; state < all.size(); state++) {
                Map<String, Integer> names = names(state);
                names.put("act", act);
                cost = cost.add(all.get(state).multiply(BigInteger.valueOf(told("cost", 0, 999, names))));
            }
            costs.add(cost);
        }
        BigInteger least = costs.stream().reduce(costs.get(0), BigInteger::min);
        return what == 0 ? costs.indexOf(least) : lowest(least, sum(all), what - 1);
    }

    int spied(int seed, int state, int hour, int n, int k) {
        if (!between(0, seed, 9999) || !stateOk(state) || !between(0, hour, 23) || !between(1, n, 10)) {
            return -1;
        }
        List<Integer> told = new ArrayList<>();
        int x = seed * 3 + 1;
        for (int i = 0; i < n; i++) {
            for (int scope = 0; scope < scopes.size(); scope++) {
                Scope s = scopes.get(scope);
                if (s.lent) {
                    continue;
                }
                int[] view = seenAndSlip(state, scope, s.cell, s.turned, (hour + i) % 24);
                told.add(x % 10 < view[1] ? (view[0] + 1) % 10 : view[0]);
                x = (x * 179 + 83) % 30071;
            }
        }
        return between(0, k, told.size() - 1) ? told.get(k) : -1;
    }

    int image() {
        image = new All(List.copyOf(hills), List.copyOf(scopes), List.copyOf(texts), ruling, List.copyOf(reports),
                List.copyOf(steps));
        return reports.size();
    }

    int back() {
        hills = new ArrayList<>(image.hills);
        scopes = new ArrayList<>(image.scopes);
        texts = new ArrayList<>(image.texts);
        ruling = image.ruling;
        reports = new ArrayList<>(image.reports);
        steps = new ArrayDeque<>(image.steps);
        return reports.size();
    }

    int about(int what) {
        List<Integer> first = List.of(w, h, scopes.size(), texts.size(), ruling, reports.size(), steps.size(),
                tape.length);
        if (between(0, what, 7)) {
            return first.get(what);
        }
        if (between(10, what, 9 + w * h)) {
            return hills.get(what - 10);
        }
        if (between(30, what, 29 + scopes.size())) {
            Scope s = scopes.get(what - 30);
            return 100 * s.cell + (s.turned ? 10 : 0) + (s.lent ? 1 : 0);
        }
        if (between(40, what, 39 + reports.size())) {
            Report r = reports.get(what - 40);
            return 1000 * r.scope + (r.turned ? 500 : 0) + 10 * r.hour + r.tells;
        }
        return -2;
    }
}
