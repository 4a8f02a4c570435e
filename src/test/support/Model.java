import java.math.BigInteger;
import java.util.ArrayDeque;
import java.util.ArrayList;
import java.util.List;
import java.util.NoSuchElementException;
import java.util.regex.Matcher;
import java.util.regex.Pattern;

/** A slow second reading of the document: it keeps the ACTS alone and replays them all when one is taken back. */
final class Model {
    private static final Pattern TOKEN = Pattern.compile("[a-z]+|[0-9]+|[^ ]", Pattern.DOTALL);

    record Act(String name, int a, int b, int c, String text) {
    }

    record Token(int at, String word) {
    }

    record Lot(long units, int far, long[] cents) {
    }

    static final class TextFault extends Exception {
        private static final long serialVersionUID = 1L;
        final int reason;
        final int place;

        TextFault(int reason, int place) {
            this.reason = reason;
            this.place = place;
        }
    }

    static final class Result {
        Lot opening;
        long received;
        long[] added;
        long lost;
        long left;
        int far;
        long finished;
        long come;
        long normal;
        long[][] done = new long[4][3];
        long[][] cents = new long[4][4];
        long net;
        long toLeft;
        long abnormal;
        long out;
    }

    static final class Dept {
        int way;
        int point;
        int rate;
        int scrap;
        int backTo = -1;
        int backShare = -1;
        List<Integer> added = new ArrayList<>();
        int lost;
        int left;
        int far;
        int[] spent = new int[4];
        Lot work = new Lot(0, 0, new long[4]);
        Result month = blank();

        static Result blank() {
            Result blank = new Result();
            blank.opening = new Lot(0, 0, new long[4]);
            return blank;
        }

        boolean has(int kind) {
            return kind == 0 || kind == 3 || kind > 0 && kind < 3 && kind <= added.size();
        }

        int done(int kind, int at) {
            return switch (kind) {
                case 0 -> 100;
                case 3 -> at;
                default -> has(kind) && added.get(kind - 1) <= at ? 100 : 0;
            };
        }
    }

    static final class Prod {
        int share;
        int price;
        int cost;
        boolean by;
        long units;
        long worth;
        long came;
        ArrayDeque<long[]> layers = new ArrayDeque<>();

        long sum(int what) {
            return layers.stream().mapToLong(layer -> layer[what]).sum();
        }
    }

    static final class State {
        List<Dept> depts = new ArrayList<>();
        List<Prod> prods = new ArrayList<>();
        int storeWay = 1;
        int months;
        int started;
        long spent;
        long sold;
        long abnormal;
        long scrap;
    }

    private final StringBuilder tape = new StringBuilder();
    private int fault = -1;
    private final int[] refused = new int[3];
    private final List<Act> acts = new ArrayList<>();
    private int canUndo = 0;
    private State s = first();

    private static State first() {
        State state = new State();
        Dept dept = new Dept();
        dept.way = 1;
        dept.point = 100;
        state.depts.add(dept);
        Prod prod = new Prod();
        prod.share = 100;
        prod.price = 100;
        state.prods.add(prod);
        return state;
    }

    // ---- refusals

    private RuntimeException no(int which) {
        refused[which]++;
        return switch (which) {
            case 0 -> new NoSuchElementException();
            case 1 -> new IllegalArgumentException();
            default -> new IllegalStateException();
        };
    }

    private Dept d(int d) {
        if (d < 0 || d >= s.depts.size()) {
            throw no(0);
        }
        return s.depts.get(d);
    }

    private Prod p(int p) {
        if (p < 0 || p >= s.prods.size()) {
            throw no(0);
        }
        return s.prods.get(p);
    }

    private void in(int n, int least, int most) {
        if (n < least || n > most) {
            throw no(1);
        }
    }

    // ---- calls

    int feed(int... five) {
        if (tape.length() + 20 > 400) {
            return -1;
        }
        for (int n : five) {
            for (byte b : BigInteger.valueOf(n & 0xffffffffL | 1L << 32).toByteArray()) {
                tape.append((char) (b & 255));
            }
            // the byte of the bit that kept the leading zeros
            tape.deleteCharAt(tape.length() - 5);
        }
        return tape.length();
    }

    int text(int n) {
        in(n, 0, tape.length());
        String told = tape.substring(0, n);
        tape.setLength(0);
        try {
            s = parse(told);
            stands(new Act("text", 0, 0, 0, told));
            fault = -1;
            return s.depts.size();
        } catch (TextFault found) {
            fault = found.place;
            return found.reason - 10;
        }
    }

    int fault() {
        return fault;
    }

    private void stands(Act act) {
        acts.add(act);
        canUndo = Math.min(8, canUndo + 1);
    }

    private long run(Act act) {
        long answer = apply(s, act);
        stands(act);
        return answer;
    }

    int start(int units) {
        in(units, 1, 10000);
        if (s.started + units > 10000) {
            throw no(2);
        }
        return (int) run(new Act("start", units, 0, 0, null));
    }

    int spend(int d, int kind, int cents) {
        Dept dept = d(d);
        if (kind < 1 || !dept.has(kind)) {
            throw no(0);
        }
        in(cents, 1, 100000000);
        if ((long) dept.spent[kind] + cents > 100000000) {
            throw no(2);
        }
        return (int) run(new Act("spend", d, kind, cents, null));
    }

    int lost(int d, int units) {
        d(d);
        in(units, 0, 50000);
        return (int) run(new Act("lost", d, units, 0, null));
    }

    int left(int d, int units, int far) {
        d(d);
        in(units, 0, 50000);
        in(far, 0, 100);
        return (int) run(new Act("left", d, units, far, null));
    }

    long close() {
        if (!canClose()) {
            throw no(2);
        }
        return run(new Act("close", 0, 0, 0, null));
    }

    private boolean canClose() {
        long received = s.started;
        for (Dept dept : s.depts) {
            long finished = dept.work.units + received - dept.lost - dept.left;
            if (finished < 0 || dept.way == 0 && finished < dept.work.units) {
                return false;
            }
            received = finished;
        }
        long[] parts = partUnits(s, received);
        for (int i = 0; i < parts.length; i++) {
            if (s.storeWay == 0 && parts[i] > 0 && s.prods.get(i).layers.size() == 40) {
                return false;
            }
        }
        return true;
    }

    long sell(int p, int units) {
        Prod prod = p(p);
        in(units, 1, 50000);
        if (prod.sum(0) < units) {
            throw no(2);
        }
        return run(new Act("sell", p, units, 0, null));
    }

    int undo() {
        if (canUndo == 0) {
            return -1;
        }
        canUndo--;
        acts.remove(acts.size() - 1);
        s = first();
        for (Act act : acts) {
            if (act.name.equals("text")) {
                try {
                    s = parse(act.text);
                } catch (TextFault never) {
                    throw new AssertionError(never);
                }
            } else {
                apply(s, act);
            }
        }
        return canUndo;
    }

    int told(int what) {
        in(what, 0, 6);
        return new int[] {s.depts.size(), s.prods.size(), s.months, s.started, s.storeWay, tape.length(),
            canUndo}[what];
    }

    int department(int d, int what) {
        Dept x = d(d);
        in(what, 0, 11);
        int one = x.added.size() > 0 ? x.added.get(0) : -1;
        int two = x.added.size() > 1 ? x.added.get(1) : -1;
        return new int[] {x.way, x.point, x.rate, x.scrap, x.added.size(), one, two, x.backTo, x.backShare, x.lost,
            x.left, x.far}[what];
    }

    int product(int p, int what) {
        Prod x = p(p);
        in(what, 0, 3);
        return new int[] {x.share, x.price, x.cost, x.by ? 1 : 0}[what];
    }

    long work(int d, int what) {
        Dept x = d(d);
        in(what, 0, 5);
        return what == 0 ? x.work.units : what == 1 ? x.work.far : x.work.cents[what - 2];
    }

    int units(int d, int what) {
        Result x = d(d).month;
        in(what, 0, 6);
        return (int) new long[] {x.opening.units, x.received, x.finished, x.lost, x.normal, x.left, x.come}[what];
    }

    int asDone(int d, int kind, int what) {
        Dept x = d(d);
        if (!x.has(kind)) {
            throw no(0);
        }
        in(what, 0, 3);
        long[] done = x.month.done[kind];
        return (int) (what == 0 ? done[0] + done[1] + done[2] : done[what - 1]);
    }

    long cents(int d, int kind, int what) {
        Dept x = d(d);
        if (!x.has(kind)) {
            throw no(0);
        }
        in(what, 0, 3);
        return x.month.cents[kind][what];
    }

    long loss(int d, int what) {
        Dept x = d(d);
        in(what, 0, 4);
        Result m = x.month;
        return new long[] {m.net, m.toLeft, m.abnormal, m.lost * x.scrap, m.out}[what];
    }

    long other(int d) {
        Dept x = d(d);
        if (s.months == 0) {
            return -1;
        }
        Result m = x.month;
        Result would = reckon(x, 1 - x.way, m.opening, m.received, m.added, m.lost, m.left, m.far);
        return would == null ? -1 : would.out;
    }

    long parted(int p, int what) {
        Prod x = p(p);
        in(what, 0, 2);
        return new long[] {x.units, x.worth, x.came}[what];
    }

    long store(int p, int what) {
        Prod x = p(p);
        in(what, 0, 2);
        return what == 2 ? x.layers.size() : x.sum(what);
    }

    long layer(int p, int k, int what) {
        Prod x = p(p);
        if (k < 0 || k >= x.layers.size()) {
            throw no(0);
        }
        in(what, 0, 1);
        return new ArrayList<>(x.layers).get(k)[what];
    }

    long account(int what) {
        in(what, 0, 5);
        long work = 0;
        for (Dept dept : s.depts) {
            for (long cents : dept.work.cents) {
                work += cents;
            }
        }
        long store = s.prods.stream().mapToLong(x -> x.sum(1)).sum();
        return new long[] {s.spent, s.sold, s.abnormal, s.scrap, work, store}[what];
    }

    long plan(int n, int what) {
        in(n, 0, 10000);
        in(what, 0, 6);
        if (what < 5) {
            d(what);
        }
        int many = s.depts.size();
        long[] flows = new long[many];
        int rounds = 0;
        while (true) {
            long[] next = new long[many];
            next[0] = n * 1000000L;
            for (int i = 0; i < many; i++) {
                Dept x = s.depts.get(i);
                long gone = flows[i] * x.rate / 100;
                if (i + 1 < many) {
                    next[i + 1] += flows[i] - gone;
                }
                if (x.backTo >= 0) {
                    next[x.backTo] += gone * x.backShare / 100;
                }
            }
            if (java.util.Arrays.equals(next, flows)) {
                break;
            }
            flows = next;
            rounds++;
        }
        long last = flows[many - 1];
        return what == 6 ? rounds : what == 5 ? last - last * s.depts.get(many - 1).rate / 100 : flows[what];
    }

    long print() {
        long h = 0;
        for (Dept x : s.depts) {
            h = h * 31 + x.work.units;
            long cents = 0;
            for (int kind = 0; kind < 4; kind++) {
                cents += x.work.cents[kind];
            }
            h = h * 31 + cents;
        }
        for (Prod x : s.prods) {
            h = (h * 31 + x.sum(0)) * 31 + x.sum(1);
        }
        return h;
    }

    int status(int what) {
        return what < 0 || what > 2 ? -1 : refused[what];
    }

    // ---- what acts do

    private static long apply(State s, Act act) {
        Dept dept = act.a < s.depts.size() && act.a >= 0 ? s.depts.get(act.a) : null;
        switch (act.name) {
            case "start":
                return s.started += act.a;
            case "spend":
                return dept.spent[act.b] += act.c;
            case "lost": {
                int before = dept.lost;
                dept.lost = act.b;
                return before;
            }
            case "left": {
                int before = dept.left;
                dept.left = act.b;
                dept.far = act.c;
                return before;
            }
            case "close":
                return closeMonth(s);
            default: {
                long cents = sellFrom(s.prods.get(act.a), act.b);
                s.sold += cents;
                return cents;
            }
        }
    }

    private static long sellFrom(Prod prod, long units) {
        long cents = 0;
        while (units > 0) {
            long[] oldest = prod.layers.peekFirst();
            long sold = Math.min(units, oldest[0]);
            long part = oldest[1] * sold / oldest[0];
            oldest[0] -= sold;
            oldest[1] -= part;
            cents += part;
            units -= sold;
            if (oldest[0] == 0) {
                prod.layers.removeFirst();
            }
        }
        return cents;
    }

    private static Result reckon(Dept x, int way, Lot opening, long received, long[] added, long lost, long left,
            int far) {
        Result r = new Result();
        r.opening = opening;
        r.received = received;
        r.added = added;
        r.lost = lost;
        r.left = left;
        r.far = far;
        r.finished = opening.units + received - lost - left;
        if (r.finished < 0 || way == 0 && r.finished < opening.units) {
            return null;
        }
        long ofLost = 0;
        for (int kind = 0; kind < 4; kind++) {
            if (!x.has(kind)) {
                continue;
            }
            long minus = way == 0 ? opening.units * x.done(kind, opening.far) : 0;
            r.done[kind][0] = 100 * r.finished - minus;
            r.done[kind][1] = left * x.done(kind, far);
            r.done[kind][2] = lost * x.done(kind, x.point);
            long all = r.done[kind][0] + r.done[kind][1] + r.done[kind][2];
            long pool = added[kind] + (way == 1 ? opening.cents[kind] : 0);
            long toLeft = all == 0 ? 0 : pool * r.done[kind][1] / all;
            long toLost = all == 0 ? 0 : pool * r.done[kind][2] / all;
            long toFinished = pool - toLeft - toLost + (way == 0 ? opening.cents[kind] : 0);
            r.cents[kind] = new long[] {pool, toFinished, toLeft, toLost};
            ofLost += toLost;
            r.out += toFinished;
        }
        boolean leftThere = far >= x.point;
        r.come = r.finished + lost + (leftThere ? left : 0) - (opening.far >= x.point ? opening.units : 0);
        r.normal = r.come < 0 ? 0 : Math.min(lost, x.rate * r.come / 100);
        long forNormal = lost == 0 ? 0 : r.normal * ofLost / lost;
        r.net = forNormal - r.normal * x.scrap;
        if (r.net < 0) {
            r.net = 0;
        }
        r.abnormal = ofLost - forNormal - (lost - r.normal) * x.scrap;
        if (r.finished > 0 || leftThere && left > 0) {
            r.toLeft = leftThere ? r.net * left / (left + r.finished) : 0;
            r.out += r.net - r.toLeft;
        } else {
            r.abnormal += r.net;
        }
        return r;
    }

    private static long closeMonth(State s) {
        long received = s.started;
        long cents = 0;
        for (Dept x : s.depts) {
            long[] added = {cents, x.spent[1], x.spent[2], x.spent[3]};
            Result r = reckon(x, x.way, x.work, received, added, x.lost, x.left, x.left == 0 ? 0 : x.far);
            long[] kept = new long[4];
            for (int kind = 0; kind < 4; kind++) {
                kept[kind] = r.cents[kind][2] + (kind == 3 ? r.toLeft : 0);
            }
            x.month = r;
            x.work = new Lot(x.left, x.left == 0 ? 0 : x.far, kept);
            s.spent += added[1] + added[2] + added[3];
            s.scrap += r.lost * x.scrap;
            x.lost = 0;
            x.left = 0;
            x.far = 0;
            x.spent = new int[4];
            received = r.finished;
            cents = r.out;
        }
        partOut(s, received, cents);
        for (Dept x : s.depts) {
            s.abnormal += x.month.abnormal;
        }
        s.months++;
        s.started = 0;
        return cents;
    }

    private static long[] partUnits(State s, long finished) {
        long[] parts = new long[s.prods.size()];
        long sum = 0;
        for (int i = 0; i < parts.length; i++) {
            parts[i] = s.prods.get(i).share * finished / 100;
            sum += parts[i];
        }
        parts[0] += finished - sum;
        return parts;
    }

    private static void partOut(State s, long finished, long out) {
        long[] parts = partUnits(s, finished);
        List<Prod> main = new ArrayList<>();
        List<Prod> by = new ArrayList<>();
        for (int i = 0; i < parts.length; i++) {
            Prod x = s.prods.get(i);
            x.units = parts[i];
            x.worth = x.units * Math.max(0, x.price - x.cost);
            x.came = 0;
            (x.by ? by : main).add(x);
        }
        long byWorth = by.stream().mapToLong(x -> x.worth).sum();
        long mainWorth = main.stream().mapToLong(x -> x.worth).sum();
        long mainUnits = main.stream().mapToLong(x -> x.units).sum();
        long toMain = Math.max(0, out - byWorth);
        long given = 0;
        for (Prod x : main) {
            if (mainWorth != 0) {
                x.came = toMain * x.worth / mainWorth;
            } else if (mainUnits != 0) {
                x.came = toMain * x.units / mainUnits;
            }
            given += x.came;
        }
        main.get(0).came += toMain - given;
        long open = out;
        for (Prod x : by) {
            x.came = Math.min(open, x.worth);
            open -= x.came;
        }
        Prod heir = s.prods.stream().filter(x -> x.units > 0).findFirst().orElse(null);
        for (Prod x : s.prods) {
            if (x.units == 0) {
                if (heir == null) {
                    s.depts.get(s.depts.size() - 1).month.abnormal += x.came;
                } else {
                    heir.came += x.came;
                }
                x.came = 0;
            }
        }
        for (Prod x : s.prods) {
            if (x.units > 0) {
                long[] old = s.storeWay == 1 && !x.layers.isEmpty() ? x.layers.removeFirst() : new long[2];
                x.layers.addLast(new long[] {old[0] + x.units, old[1] + x.came});
            }
        }
    }

    // ---- texts

    private static final class Tokens {
        final List<Token> list = new ArrayList<>();
        int next = 0;

        Tokens(String text) {
            Matcher matcher = TOKEN.matcher(text);
            while (matcher.find()) {
                list.add(new Token(matcher.start(), matcher.group()));
            }
            list.add(new Token(text.length(), ""));
        }

        Token peek() {
            return list.get(next);
        }

        boolean skip(String word) {
            if (!peek().word.equals(word)) {
                return false;
            }
            next++;
            return true;
        }

        int number(int least, int most) throws TextFault {
            Token token = peek();
            if (token.word.isEmpty() || !Character.isDigit(token.word.charAt(0)) || token.word.charAt(0) > '9') {
                throw new TextFault(1, token.at);
            }
            BigInteger value = new BigInteger(token.word);
            if (value.compareTo(BigInteger.valueOf(least)) < 0 || value.compareTo(BigInteger.valueOf(most)) > 0) {
                throw new TextFault(2, token.at);
            }
            next++;
            return value.intValue();
        }

        int way() throws TextFault {
            if (skip("first")) {
                return 0;
            }
            if (skip("average")) {
                return 1;
            }
            throw new TextFault(1, peek().at);
        }
    }

    private static State parse(String text) throws TextFault {
        State s = new State();
        Tokens t = new Tokens(text);
        boolean stored = false;
        while (t.next < t.list.size() - 1) {
            int at = t.peek().at;
            if (t.skip("dept")) {
                parseDept(s, t, at);
            } else if (t.skip("mat")) {
                int which = t.number(0, s.depts.size() - 1);
                if (s.depts.get(which).added.size() == 2) {
                    throw new TextFault(3, at);
                }
                s.depts.get(which).added.add(t.number(0, 100));
            } else if (t.skip("product")) {
                if (s.prods.size() == 4) {
                    throw new TextFault(3, at);
                }
                Prod x = new Prod();
                s.prods.add(x);
                x.share = t.number(1, 100);
                x.price = t.number(0, 9999);
                x.cost = t.number(0, 9999);
                x.by = t.skip("by");
            } else if (!stored && t.skip("store")) {
                stored = true;
                s.storeWay = t.way();
            } else {
                throw new TextFault(1, at);
            }
            if (!t.skip(";")) {
                throw new TextFault(1, t.peek().at);
            }
        }
        int shares = s.prods.stream().mapToInt(x -> x.share).sum();
        if (s.depts.isEmpty() || shares != 100 || s.prods.stream().allMatch(x -> x.by)) {
            throw new TextFault(4, text.length());
        }
        return s;
    }

    private static void parseDept(State s, Tokens t, int at) throws TextFault {
        if (s.depts.size() == 5) {
            throw new TextFault(3, at);
        }
        Dept x = new Dept();
        s.depts.add(x);
        x.way = t.way();
        x.point = t.number(0, 100);
        x.rate = t.number(0, 50);
        x.scrap = t.number(0, 999);
        if (t.skip("back")) {
            x.backTo = t.number(0, s.depts.size() - 1);
            x.backShare = t.number(1, 90);
        }
    }
}
