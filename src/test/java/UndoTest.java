import java.util.ArrayList;
import java.util.List;

/** ACTS taken back, and refusals counted (promises 11 and 27). */
public final class UndoTest {
    public static void main(String[] args) {
        eachAct();
        latestEight();
        anewBehindUndo();
        refusedActsCostNone();
        textTakenBack();
        manyStates();
        status();
        Check.end("UndoTest");
    }

    /** All that can be asked, but for acts and refusals. */
    private static List<Object> all(ProcessDesk x) {
        List<Object> all = new ArrayList<>();
        for (int what = 0; what < 6; what++) {
            int of = what;
            all.add(what == 5 ? 0 : x.told(what));
            all.add(x.account(what));
            for (int d = 0; d < 5; d++) {
                askDepartment(all, x, d, of);
            }
            for (int p = 0; p < 4; p++) {
                askProduct(all, x, p, of);
            }
        }
        all.add(x.print());
        return all;
    }

    private static void askDepartment(List<Object> all, ProcessDesk x, int d, int of) {
        all.add(Check.outcome(() -> x.department(d, of)));
        all.add(Check.outcome(() -> x.department(d, of + 6)));
        all.add(Check.outcome(() -> x.work(d, of)));
        all.add(Check.outcome(() -> x.units(d, of)));
        all.add(Check.outcome(() -> x.units(d, 6)));
        all.add(Check.outcome(() -> x.loss(d, of)));
        all.add(Check.outcome(() -> x.other(d)));
        for (int kind = 0; kind < 4; kind++) {
            int with = kind;
            all.add(Check.outcome(() -> x.asDone(d, with, of)));
            all.add(Check.outcome(() -> x.cents(d, with, of)));
        }
    }

    private static void askProduct(List<Object> all, ProcessDesk x, int p, int of) {
        all.add(Check.outcome(() -> x.product(p, of)));
        all.add(Check.outcome(() -> x.parted(p, of)));
        all.add(Check.outcome(() -> x.store(p, of)));
        for (int k = of * 7; k < of * 7 + 7; k++) {
            int at = k;
            all.add(Check.outcome(() -> x.layer(p, at, 0)));
            all.add(Check.outcome(() -> x.layer(p, at, 1)));
        }
    }

    private static void takenBack(ProcessDesk x, String what, Check.Call act) {
        List<Object> before = all(x);
        int acts = x.told(6);
        act.answer();
        Check.is(what + " is an act", Math.min(acts + 1, 8), () -> x.told(6));
        Check.same(what + " changes something", false, before.equals(all(x)));
        List<Object> behind = all(x);
        Check.is(what + " taken back", Math.min(acts, 7), x::undo);
        Check.same(what + " left nothing", before, all(x));
        act.answer();
        Check.same(what + " again", behind, all(x));
    }

    private static void eachAct() {
        ProcessDesk x = new ProcessDesk();
        takenBack(x, "text", () -> Check.tell(x,
                "dept first 50 10 1;mat 0 0;dept average 20 9 2 back 0 5;"
                + "product 60 5 1;product 40 1 0 by;store first;"));
        takenBack(x, "start", () -> x.start(100));
        Check.is("spend", 1000, () -> x.spend(0, 1, 1000));
        Check.is("spend taken back", 2, x::undo);
        Check.is("spend again", 1000, () -> x.spend(0, 1, 1000));
        x.spend(0, 3, 2000);
        takenBack(x, "lost", () -> x.lost(1, 10));
        takenBack(x, "left", () -> x.left(0, 20, 60));
        takenBack(x, "close", x::close);
        takenBack(x, "sell", () -> x.sell(0, 5));
        takenBack(x, "close again", x::close);
        takenBack(x, "sell all", () -> x.sell(1, 28));
        takenBack(x, "text again", () -> Check.tell(x, "dept first 0 0 0;product 100 0 0;"));
    }

    private static void latestEight() {
        ProcessDesk x = new ProcessDesk();
        for (int i = 1; i <= 10; i++) {
            x.start(1);
        }
        Check.is("eight of ten", 8, () -> x.told(6));
        for (int i = 7; i >= 0; i--) {
            int due = i;
            Check.is("undo", due, x::undo);
            Check.is("started", i + 2, () -> x.told(3));
        }
        Check.is("no more", -1, x::undo);
        Check.is("two stay", 2, () -> x.told(3));
        Check.is("none", 0, () -> x.told(6));
    }

    private static void anewBehindUndo() {
        ProcessDesk x = new ProcessDesk();
        for (int i = 1; i <= 10; i++) {
            x.start(1);
        }
        x.undo();
        x.undo();
        x.undo();
        Check.is("five", 5, () -> x.told(6));
        x.start(100);
        Check.is("six", 6, () -> x.told(6));
        Check.is("started", 107, () -> x.told(3));
        Check.is("undo", 5, x::undo);
        Check.is("started", 7, () -> x.told(3));
        Check.is("undo", 4, x::undo);
        Check.is("started", 6, () -> x.told(3));
    }

    private static void refusedActsCostNone() {
        ProcessDesk x = new ProcessDesk();
        for (int i = 1; i <= 9; i++) {
            x.start(1);
        }
        x.lost(0, 10);
        Check.refused("close", Check.STATE, x::close);
        Check.refused("start", Check.STATE, () -> x.start(10_000));
        Check.refused("sell", Check.STATE, () -> x.sell(0, 1));
        Check.refused("spend", Check.NO_SUCH, () -> x.spend(0, 1, 1));
        Check.is("text", -9, () -> Check.tell(x, "dept"));
        Check.refused("close", Check.STATE, x::close);
        Check.is("acts", 8, () -> x.told(6));
        for (int i = 7; i >= 0; i--) {
            int due = i;
            Check.is("undo", due, x::undo);
        }
        Check.is("started", 2, () -> x.told(3));
        Check.is("lost", 0, () -> x.department(0, 9));
    }

    private static void textTakenBack() {
        ProcessDesk x = new ProcessDesk();
        x.start(5);
        Check.tell(x, "dept first 0 0 0;product 100 0 0;");
        Check.is("nothing is started", 0, () -> x.told(3));
        Check.feedAll(x, "store");
        Check.is("undo", 1, x::undo);
        Check.is("started", 5, () -> x.told(3));
        Check.is("the tape is as it was fed", 20, () -> x.told(5));
        Check.is("its text", -9, () -> x.text(5));
        Check.is("the fault", 5, x::fault);
        Check.is("undo", 0, x::undo);
        Check.is("the latest text is still the latest", 5, x::fault);
        Check.is("by average, as at first", 1, () -> x.department(0, 0));
    }

    /** The last numbers of the largest state must come back too. */
    private static void manyStates() {
        StringBuilder text = new StringBuilder();
        for (int d = 0; d < 5; d++) {
            text.append("dept average 50 9 3;mat ").append(d).append(" 0;mat ").append(d).append(" 50;");
        }
        text.append("product 25 4 0;product 25 3 0;product 25 2 0;product 25 1 0;store first;");
        ProcessDesk x = Check.deskOf(text.toString());
        for (int i = 1; i <= 40; i++) {
            x.start(100 + i);
            x.spend(4, 3, 1000 * i);
            x.left(4, i, 50);
            x.close();
        }
        for (int p = 0; p < 4; p++) {
            int of = p;
            takenBack(x, "sell of " + p, () -> x.sell(of, 500));
        }
        x.start(40);
        takenBack(x, "close", x::close);
    }

    private static void status() {
        ProcessDesk x = new ProcessDesk();
        Check.outcome(() -> x.told(9));
        Check.outcome(() -> x.text(1));
        Check.outcome(() -> x.other(1));
        Check.outcome(() -> x.sell(0, 1));
        Check.outcome(() -> x.sell(1, 0));
        Check.outcome(() -> x.sell(0, 0));
        x.start(1);
        x.undo();
        Check.tell(x, "x");
        Check.same("no such", 2, x.status(0));
        Check.same("arguments", 3, x.status(1));
        Check.same("states", 1, x.status(2));
        Check.same("others", -1, x.status(3));
        Check.same("others below", -1, x.status(-1));
        Check.tell(x, "dept first 0 0 0;product 100 0 0;");
        Check.same("not told anew", 3, x.status(1));
        Check.same("asking for others is not refused", 2, x.status(0));
        Check.outcome(() -> x.spend(0, 1, 1));
        Check.outcome(() -> x.asDone(0, 2, 0));
        Check.outcome(() -> x.cents(0, 4, 0));
        Check.same("kinds", 5, x.status(0));
        Check.outcome(() -> x.layer(0, 0, 0));
        Check.same("layers", 6, x.status(0));
        Check.outcome(() -> x.product(1, 0));
        Check.same("products", 7, x.status(0));
        Check.outcome(x::close);
        x.lost(0, 1);
        Check.outcome(x::close);
        Check.same("close", 2, x.status(2));
    }
}
