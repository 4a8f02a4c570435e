import java.util.ArrayList;
import java.util.List;

/** All that a desk tells, asked so that nothing is refused. */
final class State {
    private static final int PLANNED = 7;
    private static final int MOST_ACTS = 8;

    private State() {
    }

    /** All but status(). */
    static List<Long> of(ProcessDesk x) {
        List<Long> all = new ArrayList<>();
        for (int what = 0; what < 7; what++) {
            all.add((long) x.told(what));
        }
        all.add((long) x.fault());
        all.add(x.print());
        for (int what = 0; what < 6; what++) {
            all.add(x.account(what));
        }
        for (int d = 0; d < x.told(0); d++) {
            addDepartment(all, x, d);
        }
        for (int p = 0; p < x.told(1); p++) {
            addProduct(all, x, p);
        }
        all.add(x.plan(PLANNED, 5));
        all.add(x.plan(PLANNED, 6));
        return all;
    }

    private static void addDepartment(List<Long> all, ProcessDesk x, int d) {
        for (int what = 0; what < 12; what++) {
            all.add((long) x.department(d, what));
        }
        for (int what = 0; what < 6; what++) {
            all.add(x.work(d, what));
        }
        for (int what = 0; what < 7; what++) {
            all.add((long) x.units(d, what));
        }
        for (int what = 0; what < 5; what++) {
            all.add(x.loss(d, what));
        }
        for (int kind = 0; kind < 4; kind++) {
            if (kind != 1 && kind != 2 || kind <= x.department(d, 4)) {
                addKind(all, x, d, kind);
            }
        }
        all.add(x.other(d));
        all.add(x.plan(PLANNED, d));
    }

    private static void addKind(List<Long> all, ProcessDesk x, int d, int kind) {
        for (int what = 0; what < 4; what++) {
            all.add((long) x.asDone(d, kind, what));
            all.add(x.cents(d, kind, what));
        }
    }

    private static void addProduct(List<Long> all, ProcessDesk x, int p) {
        for (int what = 0; what < 4; what++) {
            all.add((long) x.product(p, what));
        }
        for (int what = 0; what < 3; what++) {
            all.add(x.parted(p, what));
            all.add(x.store(p, what));
        }
        for (int k = 0; k < x.store(p, 2); k++) {
            all.add(x.layer(p, k, 0));
            all.add(x.layer(p, k, 1));
        }
    }

    static List<Integer> refusals(ProcessDesk x) {
        return new ArrayList<>(List.of(x.status(0), x.status(1), x.status(2)));
    }

    /** Takes all back that can be, and tells what stands behind each step. */
    static List<Long> backwards(ProcessDesk x) {
        List<Long> all = new ArrayList<>();
        for (int i = 0; i <= MOST_ACTS; i++) {
            all.add((long) x.undo());
            all.add(x.print());
            all.add((long) x.told(0));
            all.add((long) x.told(2));
            all.add((long) x.told(3));
            all.add((long) x.department(0, 9));
            all.add((long) x.department(0, 10));
            all.add(x.account(1));
        }
        return all;
    }
}
