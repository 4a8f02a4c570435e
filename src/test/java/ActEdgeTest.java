import java.util.ArrayList;
import java.util.List;

/** The edges of ACTS and of taking them back, of asking, of PLANS, and of the first state. */
public final class ActEdgeTest {
    private static final String FULL = "dept first 50 10 3;mat 0 20;mat 0 90;dept average 30 5 2 back 0 40;mat 1 0;"
            + "product 70 9 2;product 30 4 1 by;store first;";

    public static void main(String[] args) {
        atFirst();
        newObjects();
        whatIsAnAct();
        whatIsNoAct();
        actsThatChangeNothing();
        undoNone();
        undoCounts();
        latestEight();
        notYetTakenBack();
        eachActTakenBack();
        largestTakenBack();
        textTakenBack();
        askedNothingChanges();
        planOfNothing();
        planFlows();
        planCut();
        planBack();
        planRounds();
        planChangesNothing();
        manyCalls();
        printFromNothing();
        Check.end("ActEdgeTest");
    }

    private static void atFirst() {
        Check.sentence("At first there is one DEPARTMENT (AVERAGE, POINT 100, RATE 0, SCRAP 0) without MATERIALS, one "
                + "PRODUCT (100, PRICE 100, COST 0, MAIN)");
        ProcessDesk x = new ProcessDesk();
        ProcessDesk y = new ProcessDesk();
        Check.tell(y, "dept average 100 0 0;product 100 100 0;");
        y.undo();
        Check.same("as it was", State.of(x), State.of(y));
        int[] department = {1, 100, 0, 0, 0, -1, -1, -1, -1, 0, 0, 0};
        for (int what = 0; what < department.length; what++) {
            int of = what;
            Check.is("department " + what, department[what], () -> x.department(0, of));
        }
        int[] product = {100, 100, 0, 0};
        for (int what = 0; what < product.length; what++) {
            int of = what;
            Check.is("product " + what, product[what], () -> x.product(0, of));
        }
        int[] told = {1, 1, 0, 0, 1, 0, 0};
        for (int what = 0; what < told.length; what++) {
            int of = what;
            Check.is("told " + what, told[what], () -> x.told(of));
        }
        Check.refused("no second department", Check.NO_SUCH, () -> x.department(1, 0));
        Check.refused("no second product", Check.NO_SUCH, () -> x.product(1, 0));
        Check.refused("no material", Check.NO_SUCH, () -> x.spend(0, 1, 1));
    }

    private static void newObjects() {
        Check.sentence("makes an object in the state that the terms give");
        ProcessDesk x = new ProcessDesk();
        Check.tell(x, FULL);
        x.start(50);
        x.close();
        Check.outcome(() -> x.told(9));
        ProcessDesk y = new ProcessDesk();
        Check.is("nothing of another object", 1, () -> y.told(0));
        Check.is("no act", 0, () -> y.told(6));
        Check.is("no month", 0, () -> y.told(2));
        Check.is("print", 0, y::print);
        Check.same("no refusal", 0, y.status(1));
    }

    /** Some of each act, so that each can be taken back behind what it needs. */
    private static List<Check.CallOn> acts() {
        List<Check.CallOn> acts = new ArrayList<>();
        acts.add(x -> Check.tell(x, FULL));
        acts.add(x -> x.start(100));
        acts.add(x -> x.spend(0, 1, 1000));
        acts.add(x -> x.spend(1, 3, 900));
        acts.add(x -> x.lost(0, 10));
        acts.add(x -> x.left(1, 20, 60));
        acts.add(ProcessDesk::close);
        acts.add(x -> x.sell(0, 5));
        acts.add(x -> x.start(10));
        acts.add(ProcessDesk::close);
        acts.add(x -> x.sell(0, 50));
        acts.add(x -> Check.tell(x, "dept first 0 0 0;product 100 0 0;"));
        return acts;
    }

    private static void whatIsAnAct() {
        Check.sentence("ACTS: text() without a FAULT, start(), spend(), lost(), left(), close(), sell()");
        ProcessDesk x = new ProcessDesk();
        List<Check.CallOn> acts = acts();
        for (int i = 0; i < acts.size(); i++) {
            acts.get(i).answer(x);
            Check.is("act " + i, Math.min(i + 1, 8), () -> x.told(6));
        }
    }

    private static void whatIsNoAct() {
        Check.sentence("text() without a FAULT");
        ProcessDesk x = new ProcessDesk();
        Check.tell(x, FULL);
        x.start(5);
        Check.tell(x, "x");
        Check.tell(x, "dept first 101");
        Check.tell(x, "dept first 0 0 0;".repeat(6));
        Check.tell(x, "");
        x.feed(0, 0, 0, 0, 0);
        Check.outcome(() -> x.text(-1));
        Check.outcome(() -> x.start(0));
        Check.outcome(() -> x.start(10_000));
        Check.outcome(() -> x.spend(0, 0, 1));
        Check.outcome(() -> x.lost(2, 1));
        Check.outcome(() -> x.left(0, 1, 101));
        Check.outcome(() -> x.sell(0, 1));
        State.of(x);
        Check.is("two", 2, () -> x.told(6));
        x.lost(0, 6);
        Check.outcome(x::close);
        Check.is("a month that can't be closed is none", 3, () -> x.told(6));
        Check.is("undo", 2, x::undo);
        Check.is("undo is none", 2, () -> x.told(6));
        Check.is("started", 5, () -> x.told(3));
    }

    private static void actsThatChangeNothing() {
        Check.sentence("undo() takes the latest one back that is not yet, of the latest 8");
        ProcessDesk x = new ProcessDesk();
        x.start(3);
        x.lost(0, 0);
        x.left(0, 0, 0);
        Check.tell(x, "dept average 100 0 0;product 100 100 0;");
        x.close();
        Check.is("all of these are acts", 5, () -> x.told(6));
        Check.is("close", 4, x::undo);
        Check.is("text", 3, x::undo);
        Check.is("started again", 3, () -> x.told(3));
        Check.is("left", 2, x::undo);
        Check.is("lost", 1, x::undo);
        Check.is("still started", 3, () -> x.told(3));
        Check.is("start", 0, x::undo);
        Check.is("not started", 0, () -> x.told(3));
    }

    private static void undoNone() {
        Check.sentence("How many ACTS still can be taken back behind it; NONE: none could");
        ProcessDesk x = new ProcessDesk();
        Check.is("none at first", -1, x::undo);
        Check.is("nor again", -1, x::undo);
        Check.is("none", 0, () -> x.told(6));
        x.start(1);
        Check.is("one", 0, x::undo);
        Check.is("no other", -1, x::undo);
        Check.is("nothing is started", 0, () -> x.told(3));
        Check.same("undo is never refused", 0, x.status(0) + x.status(1) + x.status(2));
    }

    private static void undoCounts() {
        Check.sentence("6 ACTS that can be taken back");
        for (int acts = 1; acts <= 12; acts++) {
            ProcessDesk x = new ProcessDesk();
            for (int i = 0; i < acts; i++) {
                x.start(1);
            }
            int kept = Math.min(acts, 8);
            Check.is("of " + acts, kept, () -> x.told(6));
            for (int still = kept - 1; still >= 0; still--) {
                int due = still;
                Check.is("undo", due, x::undo);
                Check.is("told", due, () -> x.told(6));
            }
            Check.is("no more", -1, x::undo);
            Check.is("those ahead stay", acts - kept, () -> x.told(3));
        }
    }

    private static void latestEight() {
        Check.sentence("of the latest 8");
        ProcessDesk x = new ProcessDesk();
        for (int i = 0; i < 8; i++) {
            x.start(1);
        }
        for (int i = 0; i < 8; i++) {
            x.undo();
        }
        Check.is("the eighth can be", 0, () -> x.told(3));
        ProcessDesk y = new ProcessDesk();
        for (int i = 0; i < 9; i++) {
            y.start(1);
        }
        for (int i = 0; i < 9; i++) {
            y.undo();
        }
        Check.is("the ninth can't", 1, () -> y.told(3));
    }

    private static void notYetTakenBack() {
        Check.sentence("takes the latest one back that is not yet");
        ProcessDesk x = new ProcessDesk();
        x.start(1);
        x.start(10);
        x.start(100);
        Check.is("the third", 2, x::undo);
        Check.is("the second, for the third is already", 1, x::undo);
        x.start(1000);
        Check.is("1001", 1001, () -> x.told(3));
        Check.is("two can be", 2, () -> x.told(6));
        Check.is("the fourth", 1, x::undo);
        Check.is("1", 1, () -> x.told(3));
        Check.is("the first", 0, x::undo);
        Check.is("0", 0, () -> x.told(3));
        Check.is("no other", -1, x::undo);
        for (int i = 0; i < 30; i++) {
            x.start(1);
            x.start(1);
            x.undo();
        }
        Check.is("one of each two", 30, () -> x.told(3));
        // the last act that was taken back had pushed an older one out
        for (int i = 6; i >= 0; i--) {
            int due = i;
            Check.is("undo", due, x::undo);
        }
        Check.is("23", 23, () -> x.told(3));
        Check.is("no other behind these", -1, x::undo);
    }

    private static void eachActTakenBack() {
        Check.sentence("undo() takes the latest one back");
        List<Check.CallOn> acts = acts();
        for (int i = 0; i < acts.size(); i++) {
            ProcessDesk with = new ProcessDesk();
            ProcessDesk without = new ProcessDesk();
            for (int j = 0; j < i; j++) {
                acts.get(j).answer(with);
                acts.get(j).answer(without);
            }
            acts.get(i).answer(with);
            with.undo();
            List<Long> due = State.of(without);
            List<Long> got = State.of(with);
            // a ninth act pushes the oldest out, so one act less can be taken back
            if (i >= 8) {
                Check.same("acts", 7L, got.set(6, due.get(6)));
            }
            Check.same("act " + i + " taken back", due, got);
            Check.same("act " + i + " again", acts.get(i).answer(without), acts.get(i).answer(with));
            Check.same("act " + i + " behind it", State.of(without), State.of(with));
        }
    }

    /** The last numbers of the largest state: five departments, four products of forty layers each. */
    private static void largestTakenBack() {
        Check.sentence("all taken back");
        StringBuilder text = new StringBuilder();
        for (int d = 0; d < 5; d++) {
            text.append("dept average 50 9 3;mat ").append(d).append(" 0;mat ").append(d).append(" 50;");
        }
        text.append("product 25 4 0;product 25 3 0;product 25 2 0;product 25 1 0;store first;");
        ProcessDesk x = Check.deskOf(text.toString());
        for (int i = 1; i <= 40; i++) {
            x.start(100 + i);
            x.spend(4, 3, 1000 * i);
            x.left(4, i, 50);
            x.close();
        }
        List<Long> due = lastNumbers(x);
        x.sell(3, 30);
        x.sell(0, 30);
        x.start(1);
        Check.tell(x, "dept first 0 0 0;product 100 0 0;");
        x.start(2);
        x.close();
        Check.is("undo", 7, x::undo);
        for (int i = 6; i >= 2; i--) {
            int still = i;
            Check.is("undo", still, x::undo);
        }
        Check.same("all is as it was", due, lastNumbers(x));
        x.start(4);
        Check.refused("a layer too many", Check.STATE, x::close);
        Check.is("undo", 2, x::undo);
        Check.same("a refused month is as it was", due, lastNumbers(x));
    }

    private static List<Long> lastNumbers(ProcessDesk x) {
        List<Long> all = new ArrayList<>();
        for (int p = 0; p < 4; p++) {
            all.add(x.store(p, 0));
            all.add(x.store(p, 1));
            all.add(x.store(p, 2));
            all.add(x.parted(p, 2));
            all.add(x.layer(p, 39, 0));
            all.add(x.layer(p, 39, 1));
        }
        for (int d = 0; d < 5; d++) {
            all.add(x.work(d, 5));
            all.add(x.loss(d, 4));
            all.add(x.cents(d, 3, 3));
            all.add(x.other(d));
        }
        all.add(x.print());
        all.add(x.account(0));
        all.add(x.account(4));
        all.add(x.account(5));
        return all;
    }

    private static void textTakenBack() {
        Check.sentence("(empty then)");
        ProcessDesk x = new ProcessDesk();
        x.start(5);
        Check.tell(x, FULL);
        x.feed(1, 2, 3, 4, 5);
        Check.is("undo", 1, x::undo);
        Check.is("one department again", 1, () -> x.told(0));
        Check.is("started again", 5, () -> x.told(3));
        Check.is("the tape is no work of acts", 20, () -> x.told(5));
        Check.is("nor is the place of a fault", -1, x::fault);
    }

    private static ProcessDesk busy() {
        ProcessDesk x = new ProcessDesk();
        List<Check.CallOn> acts = acts();
        for (int i = 0; i < acts.size() - 1; i++) {
            acts.get(i).answer(x);
        }
        x.lost(0, 4);
        x.left(1, 6, 70);
        x.feed(1, 2, 3, 4, 5);
        return x;
    }

    private static void askedNothingChanges() {
        Check.sentence("Asked, nothing stays changed");
        ProcessDesk x = busy();
        ProcessDesk y = busy();
        List<Long> first = State.of(x);
        Check.same("asked again", first, State.of(x));
        Check.same("an object that was not asked", State.backwards(y), State.backwards(x));
        Check.same("no refusal", State.refusals(y), State.refusals(x));
    }

    private static void plan(ProcessDesk x, int n, long passes, long rounds, long... flows) {
        for (int d = 0; d < flows.length; d++) {
            int of = d;
            Check.is("plan(" + n + ", " + d + ")", flows[d], () -> x.plan(n, of));
        }
        Check.is("plan(" + n + ", 5)", passes, () -> x.plan(n, 5));
        Check.is("plan(" + n + ", 6)", rounds, () -> x.plan(n, 6));
    }

    private static ProcessDesk rates(String... told) {
        StringBuilder text = new StringBuilder();
        for (String each : told) {
            text.append("dept first 0 ").append(each).append(";");
        }
        return Check.deskOf(text.append("product 100 0 0;").toString());
    }

    private static void planOfNothing() {
        Check.sentence("Till nothing is another one; ROUNDS: how many times something was");
        plan(new ProcessDesk(), 0, 0, 0, 0);
        plan(rates("50 0 back 0 90", "50 0 back 0 90"), 0, 0, 0, 0, 0);
        plan(new ProcessDesk(), 1, 1_000_000, 1, 1_000_000);
        plan(rates("0 0", "0 0", "0 0", "0 0", "0 0"), 1, 1_000_000, 5, 1_000_000, 1_000_000, 1_000_000, 1_000_000,
                1_000_000);
    }

    private static void planFlows() {
        Check.sentence("FLOWS of DEPARTMENTS in millionths: at first 0; again and again all anew by those ahead");
        plan(new ProcessDesk(), 10_000, 10_000_000_000L, 1, 10_000_000_000L);
        plan(rates("50 0", "0 0"), 1, 500_000, 2, 1_000_000, 500_000);
        plan(rates("0 0", "50 0"), 10_000, 5_000_000_000L, 2, 10_000_000_000L, 10_000_000_000L);
    }

    private static void planCut() {
        Check.sentence("Of a FLOW RATE by 100 (cut) is lost, the rest PASSES");
        // 33 of 100, four times: 670000, 448900, 300763, and of that 99251.79
        plan(rates("33 0", "33 0", "33 0", "33 0"), 1, 201_512, 4, 1_000_000, 670_000, 448_900, 300_763);
        plan(rates("50 0", "1 0"), 1, 495_000, 2, 1_000_000, 500_000);
    }

    private static void planBack() {
        Check.sentence("of what is lost the part for BACK by 100 (cut) comes BACK");
        // without a rate nothing is lost, so nothing comes back
        plan(rates("0 0 back 0 90"), 1, 1_000_000, 1, 1_000_000);
        // 1 of 100 of 1 of 100: 100 of a million, then 100.01, cut
        plan(rates("1 0 back 0 1"), 1, 990_099, 2, 1_000_100);
        plan(rates("0 0", "1 0 back 1 1"), 1, 990_099, 3, 1_000_000, 1_000_100);
        plan(rates("0 0", "1 0 back 0 1"), 1, 990_099, 4, 1_000_100, 1_000_100);
    }

    private static void planRounds() {
        Check.sentence("what comes BACK to it");
        long flow = 0;
        long rounds = 0;
        while (flow != 3_000_000 + flow * 50 / 100 * 90 / 100) {
            flow = 3_000_000 + flow * 50 / 100 * 90 / 100;
            rounds++;
        }
        plan(rates("50 0 back 0 90"), 3, flow - flow * 50 / 100, rounds, flow);
        // both come back to the first
        long first = 0;
        long second = 0;
        rounds = 0;
        boolean changed = true;
        while (changed) {
            long lost = first * 50 / 100;
            long nextFirst = 7_000_000 + lost * 90 / 100 + second * 40 / 100 * 80 / 100;
            long nextSecond = first - lost;
            changed = nextFirst != first || nextSecond != second;
            first = nextFirst;
            second = nextSecond;
            rounds += changed ? 1 : 0;
        }
        plan(rates("50 0 back 0 90", "40 0 back 0 80"), 7, second - second * 40 / 100, rounds, first, second);
    }

    private static void planChangesNothing() {
        Check.sentence("come again, in PLANS");
        ProcessDesk x = Check.deskOf("dept average 100 50 0 back 0 90;product 100 1 0;");
        x.start(10);
        x.spend(0, 3, 100);
        x.lost(0, 5);
        x.plan(10, 6);
        Check.is("in months nothing comes back", 100, x::close);
        Check.is("units", 5, () -> x.units(0, 2));
        Check.is("nothing is in work", 0, () -> x.work(0, 0));
        Check.is("a plan is the same behind it", x.plan(10, 6), () -> x.plan(10, 6));
    }

    private static void manyCalls() {
        Check.sentence("An object is used for at most 512 calls after it has been made");
        ProcessDesk x = new ProcessDesk();
        for (int i = 1; i <= 510; i++) {
            Check.is("close " + i, 0, x::close);
        }
        Check.is("call 511", 510, () -> x.told(2));
        Check.is("call 512", 7, x::undo);
        ProcessDesk y = new ProcessDesk();
        for (int i = 1; i <= 510; i++) {
            Check.refused("call " + i, Check.STATE, () -> y.sell(0, 1));
        }
        Check.same("call 511", 510, y.status(2));
        Check.is("call 512", 1, () -> y.start(1));
        ProcessDesk z = new ProcessDesk();
        for (int i = 1; i <= 511; i++) {
            Check.is("call " + i, i > 20 ? -1 : 20 * i, () -> z.feed(-1, -1, -1, -1, -1));
        }
        Check.is("call 512", -9, () -> z.text(400));
    }

    private static void printFromNothing() {
        Check.sentence("From 0 on, of DEPARTMENT by DEPARTMENT 31 times, and its units in work, 31 times, and cents of "
                + "these together");
        ProcessDesk x = new ProcessDesk();
        Check.is("of nothing", 0, x::print);
        x.start(5);
        x.spend(0, 3, 7);
        Check.is("what is not closed is not in it", 0, x::print);
        x.left(0, 2, 100);
        x.close();
        // 2 of 2 cents are in work, 3 of 5 in the store
        Check.is("one of each", ((2 * 31 + 2) * 31 + 3) * 31 + 5, x::print);
        x.sell(0, 3);
        Check.is("an empty store", (2 * 31 + 2) * 31 * 31, x::print);
    }
}
