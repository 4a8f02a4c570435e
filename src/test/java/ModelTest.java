import java.util.Random;

/** Long runs of calls, the same on the desk and on the model, that must answer alike. */
public final class ModelTest {
    private static final int RUNS = 1500;
    private static final int CALLS = 500;

    private final Random random;
    private final ProcessDesk desk = new ProcessDesk();
    private final Model model = new Model();
    private final int run;
    private int calls = 0;

    private ModelTest(int run) {
        this.run = run;
        this.random = new Random(run);
    }

    public static void main(String[] args) {
        for (int run = 0; run < RUNS; run++) {
            new ModelTest(run).go();
        }
        Check.end("ModelTest");
    }

    private void go() {
        boolean calm = run % 3 != 0;
        if (run % 5 != 0) {
            tellText(soundText());
        }
        while (calls < CALLS) {
            if (calm && random.nextInt(4) > 0) {
                month();
            } else {
                anyCall();
            }
            if (random.nextInt(12) == 0) {
                askMuch();
            }
        }
        askAll();
    }

    private void same(String what, Check.Call onDesk, Check.Call onModel) {
        calls++;
        Check.same("run " + run + ", call " + calls + ": " + what, Check.outcome(onModel), Check.outcome(onDesk));
    }

    private int upTo(int most) {
        return random.nextInt(most + 1);
    }

    private int pick(int... of) {
        return of[random.nextInt(of.length)];
    }

    /** Mostly within the bounds, now and then beyond them. */
    private int about(int least, int most) {
        int kind = random.nextInt(20);
        if (kind == 0) {
            return pick(least - 1, most + 1, Integer.MIN_VALUE, Integer.MAX_VALUE);
        }
        return kind < 4 ? pick(least, most) : least + random.nextInt(most - least + 1);
    }

    private int aDepartment() {
        return random.nextInt(12) == 0 ? pick(-1, 5, Integer.MAX_VALUE) : upTo(model.told(0));
    }

    private int inDepartment() {
        return upTo(model.told(0) - 1);
    }

    private int aProduct() {
        return random.nextInt(12) == 0 ? pick(-1, 4, Integer.MIN_VALUE) : upTo(model.told(1));
    }

    // ---- calls

    private void start(int units) {
        same("start(" + units + ")", () -> desk.start(units), () -> model.start(units));
    }

    private void spend(int d, int kind, int cents) {
        same("spend(" + d + ", " + kind + ", " + cents + ")", () -> desk.spend(d, kind, cents),
                () -> model.spend(d, kind, cents));
    }

    private void lost(int d, int units) {
        same("lost(" + d + ", " + units + ")", () -> desk.lost(d, units), () -> model.lost(d, units));
    }

    private void left(int d, int units, int far) {
        same("left(" + d + ", " + units + ", " + far + ")", () -> desk.left(d, units, far),
                () -> model.left(d, units, far));
    }

    private void close() {
        same("close()", desk::close, model::close);
        same("print()", desk::print, model::print);
    }

    private void sell(int p, int units) {
        same("sell(" + p + ", " + units + ")", () -> desk.sell(p, units), () -> model.sell(p, units));
    }

    private void undo() {
        same("undo()", desk::undo, model::undo);
        same("print()", desk::print, model::print);
    }

    private void feed(int[] five) {
        same("feed", () -> desk.feed(five[0], five[1], five[2], five[3], five[4]), () -> model.feed(five));
    }

    private void tellText(String text) {
        for (int at = 0; at < text.length(); at += 20) {
            int[] five = new int[5];
            for (int i = 0; i < 20; i++) {
                int sign = at + i < text.length() ? text.charAt(at + i) : 0;
                five[i / 4] |= sign << 24 - i % 4 * 8;
            }
            feed(five);
        }
        int n = random.nextInt(25) == 0 ? about(0, 400) : text.length();
        same("text(" + n + ") of '" + text + "'", () -> desk.text(n), () -> model.text(n));
        same("fault()", desk::fault, model::fault);
        if (random.nextInt(3) == 0) {
            same("told(5)", () -> desk.told(5), () -> model.told(5));
        }
        // what did not fit in or was refused must not stay for the next text
        same("text(0)", () -> desk.told(5) > 0 ? desk.text(0) : 0, () -> model.told(5) > 0 ? model.text(0) : 0);
        same("fault()", desk::fault, model::fault);
    }

    // ---- runs of calls

    private void month() {
        int small = pick(3, 10, 100, 1000);
        start(1 + upTo(small));
        for (int d = 0; d < model.told(0); d++) {
            if (random.nextBoolean()) {
                spend(d, pick(1, 2, 3, 3), 1 + upTo(pick(10, 1000, 1000000, 99999999)));
            }
            if (random.nextInt(3) == 0) {
                lost(d, upTo(small / 3));
            }
            if (random.nextInt(3) == 0) {
                left(d, upTo(small / 3), about(0, 100));
            }
        }
        close();
        if (random.nextInt(3) == 0) {
            int p = upTo(model.told(1) - 1);
            sell(p, 1 + upTo(pick(3, small)));
        }
        if (random.nextInt(5) == 0) {
            undo();
        }
    }

    private void anyCall() {
        switch (random.nextInt(16)) {
            case 0 -> start(about(1, 10000));
            case 1, 2 -> spend(aDepartment(), about(0, 4), about(1, 100000000));
            case 3 -> lost(aDepartment(), random.nextBoolean() ? upTo(20) : about(0, 50000));
            case 4 -> left(aDepartment(), random.nextBoolean() ? upTo(20) : about(0, 50000), about(0, 100));
            case 5, 6 -> close();
            case 7 -> sell(aProduct(), random.nextBoolean() ? 1 + upTo(20) : about(1, 50000));
            case 8, 9 -> {
                for (int i = upTo(9); i >= 0; i--) {
                    undo();
                }
            }
            case 10 -> tellText(random.nextInt(4) == 0 ? soundText() : spoilt(soundText()));
            case 11 -> feed(new int[] {random.nextInt(), random.nextInt(), 0x64657074, 0x20666972, random.nextInt()});
            case 12 -> month();
            case 13 -> {
                for (int d = 0; d < model.told(0); d++) {
                    lost(d, 0);
                    left(d, 0, 0);
                }
                close();
            }
            default -> askOne();
        }
    }

    private void askMuch() {
        for (int i = 0; i < 10; i++) {
            askOne();
        }
    }

    private void askOne() {
        int d = aDepartment();
        int p = aProduct();
        int kind = about(0, 3);
        int n = about(0, 10000);
        ask(random.nextInt(14), d, p, kind, n);
    }

    private void ask(int which, int d, int p, int kind, int n) {
        int what = about(0, 6);
        switch (which) {
            case 0 -> same("told", () -> desk.told(what), () -> model.told(what));
            case 1 -> {
                int of = about(0, 11);
                same("department", () -> desk.department(d, of), () -> model.department(d, of));
            }
            case 2 -> same("product", () -> desk.product(p, what), () -> model.product(p, what));
            case 3 -> same("work", () -> desk.work(d, what), () -> model.work(d, what));
            case 4 -> same("units", () -> desk.units(d, what), () -> model.units(d, what));
            case 5 -> same("asDone", () -> desk.asDone(d, kind, what), () -> model.asDone(d, kind, what));
            case 6 -> same("cents", () -> desk.cents(d, kind, what), () -> model.cents(d, kind, what));
            case 7 -> same("loss", () -> desk.loss(d, what), () -> model.loss(d, what));
            case 8 -> same("other", () -> desk.other(d), () -> model.other(d));
            case 9 -> same("parted", () -> desk.parted(p, what), () -> model.parted(p, what));
            case 10 -> same("store", () -> desk.store(p, what), () -> model.store(p, what));
            case 11 -> {
                int k = about(0, random.nextInt(40) + 1);
                int of = about(0, 1);
                same("layer", () -> desk.layer(p, k, of), () -> model.layer(p, k, of));
            }
            case 12 -> same("account", () -> desk.account(what), () -> model.account(what));
            default -> same("plan", () -> desk.plan(n, what), () -> model.plan(n, what));
        }
        int of = pick(0, 1, 2, 2, 3, -1);
        same("status", () -> desk.status(of), () -> model.status(of));
    }

    private void askAll() {
        for (int i = 0; i < 9; i++) {
            for (int d = 0; d < model.told(0); d++) {
                int at = d;
                for (int what = 0; what < 12; what++) {
                    int of = what;
                    same("all: department", () -> desk.department(at, of), () -> model.department(at, of));
                    same("all: work", () -> desk.work(at, of), () -> model.work(at, of));
                    same("all: units", () -> desk.units(at, of), () -> model.units(at, of));
                    same("all: loss", () -> desk.loss(at, of), () -> model.loss(at, of));
                    same("all: asDone", () -> desk.asDone(at, of / 4, of % 4), () -> model.asDone(at, of / 4, of % 4));
                    same("all: cents", () -> desk.cents(at, of / 4, of % 4), () -> model.cents(at, of / 4, of % 4));
                }
                same("all: other", () -> desk.other(at), () -> model.other(at));
            }
            for (int p = 0; p < model.told(1); p++) {
                int at = p;
                for (int what = 0; what < 42; what++) {
                    int of = what;
                    same("all: product", () -> desk.product(at, of), () -> model.product(at, of));
                    same("all: parted", () -> desk.parted(at, of), () -> model.parted(at, of));
                    same("all: store", () -> desk.store(at, of), () -> model.store(at, of));
                    same("all: layer units", () -> desk.layer(at, of, 0), () -> model.layer(at, of, 0));
                    same("all: layer cents", () -> desk.layer(at, of, 1), () -> model.layer(at, of, 1));
                }
            }
            for (int what = 0; what < 7; what++) {
                int of = what;
                same("all: told", () -> desk.told(of), () -> model.told(of));
                same("all: account", () -> desk.account(of), () -> model.account(of));
            }
            undo();
        }
    }

    // ---- texts

    private String blanks() {
        return random.nextInt(8) == 0 ? "  ".substring(random.nextInt(2)) : "";
    }

    private String soundText() {
        int depts = 1 + upTo(pick(0, 1, 4));
        int prods = 1 + upTo(pick(0, 1, 3));
        StringBuilder text = new StringBuilder();
        int[] mats = new int[depts];
        for (int d = 0; d < depts; d++) {
            text.append(blanks()).append("dept ").append(pick(0, 1) == 0 ? "first " : "average ");
            text.append(pick(0, 50, 100, upTo(100))).append(' ').append(pick(0, 50, upTo(50))).append(' ');
            text.append(blanks()).append(pick(0, 1, upTo(999)));
            if (random.nextInt(3) == 0) {
                text.append(" back ").append(upTo(d)).append(' ').append(pick(1, 90, 1 + upTo(89)));
            }
            text.append(blanks()).append(';');
            int to = upTo(d);
            if (random.nextBoolean() && mats[to] < 2) {
                mats[to]++;
                text.append("mat ").append(to).append(blanks()).append(' ').append(pick(0, 100, upTo(100)));
                text.append(';');
            }
        }
        addProducts(text, prods);
        if (random.nextBoolean()) {
            text.append("store ").append(random.nextInt(3) > 0 ? "first" : "average").append(blanks()).append(';');
        }
        return text.append(blanks()).toString();
    }

    private void addProducts(StringBuilder text, int prods) {
        int open = 100;
        int main = upTo(prods - 1);
        for (int p = 0; p < prods; p++) {
            int share = p == prods - 1 ? open : 1 + upTo(pick(0, (open - prods + p) / 2));
            open -= share;
            text.append("product ").append(share).append(' ').append(pick(0, upTo(20), upTo(9999))).append(' ');
            text.append(pick(0, upTo(20), upTo(9999)));
            text.append(p != main && random.nextBoolean() ? " by" : "").append(blanks()).append(';');
        }
    }

    private String spoilt(String text) {
        StringBuilder spoilt = new StringBuilder(text);
        for (int i = upTo(2); i >= 0 && spoilt.length() > 0; i--) {
            int at = random.nextInt(spoilt.length());
            switch (random.nextInt(8)) {
                case 0 -> spoilt.setLength(at);
                case 1 -> spoilt.deleteCharAt(at);
                case 2 -> spoilt.insert(at, (char) pick('0', '9', 'a', ';', ' ', 0, 255, 'A', upTo(255)));
                case 3 -> spoilt.setCharAt(at, (char) pick('0', '1', 'b', ';', ' ', 128, '/', ':', '`', '{'));
                case 4 -> spoilt.append(pick(0, 1) == 0 ? "mat 0 5;" : "store first;");
                case 5 -> spoilt.append("dept first 0 0 0;".repeat(1 + upTo(4)));
                case 6 -> spoilt.append("product 1 0 0;".repeat(1 + upTo(3)));
                default -> spoilt.insert(at, "0000000000000000000000".substring(upTo(21)));
            }
        }
        return spoilt.length() > 400 ? spoilt.substring(0, 400) : spoilt.toString();
    }
}
