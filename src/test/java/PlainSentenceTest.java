/** The sentences of the document that name no edge: each with numbers that were reckoned by hand. */
public final class PlainSentenceTest {
    private static final int LEAST = Integer.MIN_VALUE;
    private static final int MOST = Integer.MAX_VALUE;

    public static void main(String[] args) {
        kindsOfCost();
        workAsFarAsItIs();
        unitsAsDone();
        normalOnesOfThoseThatCome();
        productLine();
        byHand();
        departmentByDepartment();
        inWorkNow();
        outIsParted();
        soldUnitsLeave();
        flows();
        anotherNumber();
        Check.end("PlainSentenceTest");
    }

    private static void kindsOfCost() {
        Check.sentence("KINDS of cost: 0 what came with the units; 1, 2 its MATERIALS in order; 3 its WORK");
        ProcessDesk x = Check.deskOf("dept average 100 0 0;dept average 100 0 0;mat 1 70;mat 1 20;product 100 1 0;");
        x.start(10);
        x.spend(0, 3, 100);
        x.spend(1, 1, 30);
        x.spend(1, 2, 50);
        x.spend(1, 3, 80);
        x.left(1, 4, 50);
        Check.is("close", 180, x::close);
        long[] pools = {100, 30, 50, 80};
        long[] finished = {60, 30, 30, 60};
        long[] left = {40, 0, 20, 20};
        for (int kind = 0; kind < 4; kind++) {
            int of = kind;
            Check.is("pool of " + kind, pools[kind], () -> x.cents(1, of, 0));
            Check.is("finished of " + kind, finished[kind], () -> x.cents(1, of, 1));
            Check.is("left of " + kind, left[kind], () -> x.cents(1, of, 2));
            Check.is("in work of " + kind, left[kind], () -> x.work(1, of + 2));
        }
    }

    private static void workAsFarAsItIs() {
        Check.sentence("p for WORK");
        for (int p : new int[] {0, 1, 33, 99, 100}) {
            ProcessDesk x = new ProcessDesk();
            x.start(10);
            x.left(0, 7, p);
            x.close();
            Check.is("7 at " + p, 7 * p, () -> x.asDone(0, 3, 2));
            Check.is("7 at " + p + ", what came", 700, () -> x.asDone(0, 0, 2));
        }
    }

    private static void unitsAsDone() {
        Check.sentence("Units AS DONE of a KIND (in hundredths): of LEFT: units times DONE; of LOST: units times DONE "
                + "at the POINT; of FINISHED: 100 times units");
        ProcessDesk x = Check.deskOf("dept average 40 0 0;mat 0 40;mat 0 41;product 100 1 0;");
        x.start(20);
        x.lost(0, 3);
        x.left(0, 5, 60);
        x.close();
        long[][] due = {{2000, 1200, 500, 300}, {2000, 1200, 500, 300}, {1700, 1200, 500, 0}, {1620, 1200, 300, 120}};
        for (int kind = 0; kind < 4; kind++) {
            for (int what = 0; what < 4; what++) {
                int k = kind;
                int w = what;
                Check.is("asDone(0, " + k + ", " + w + ")", due[kind][what], () -> x.asDone(0, k, w));
            }
        }
    }

    private static void normalOnesOfThoseThatCome() {
        Check.sentence("at which LOSSES are found; RATE: of 100 units that come to the POINT so many are NORMAL LOSSES");
        ProcessDesk x = Check.deskOf("dept average 30 25 0;product 100 1 0;");
        x.start(60);
        x.lost(0, 30);
        x.left(0, 20, 29);
        x.close();
        Check.is("20 are not at the point yet", 40, () -> x.units(0, 6));
        Check.is("a quarter of 40", 10, () -> x.units(0, 4));
        Check.is("lost at 30 hundredths of work", 30 * 30, () -> x.asDone(0, 3, 3));
    }

    private static void productLine() {
        Check.sentence("\"product\" N N N [ \"by\" ]");
        ProcessDesk x = Check.deskOf("dept first 0 0 0;product 60 7 3;product 40 5 2 by;");
        int[][] due = {{60, 7, 3, 0}, {40, 5, 2, 1}};
        for (int product = 0; product < 2; product++) {
            for (int what = 0; what < 4; what++) {
                int p = product;
                int w = what;
                Check.is("product(" + p + ", " + w + ")", due[product][what], () -> x.product(p, w));
            }
        }
    }

    private static void byHand() {
        Check.sentence("cents SPENT (of a DEPARTMENT, KIND 1 to 3), LOST and LEFT units of a DEPARTMENT, these with "
                + "how far they are");
        ProcessDesk x = Check.deskOf("dept average 0 0 0;mat 0 0;dept average 0 0 0;mat 1 0;mat 1 5;product 100 1 0;");
        Check.is("spend", 5, () -> x.spend(0, 1, 5));
        Check.is("spend of another department", 7, () -> x.spend(1, 1, 7));
        Check.is("spend of another kind", 11, () -> x.spend(1, 3, 11));
        Check.is("spend of a third kind", 13, () -> x.spend(1, 2, 13));
        Check.is("spend more", 12, () -> x.spend(1, 1, 5));
        Check.is("spend more of the first", 6, () -> x.spend(0, 1, 1));
        x.lost(0, 2);
        x.left(0, 3, 40);
        x.lost(1, 5);
        x.left(1, 6, 70);
        Check.sentence("9 LOST, 10 LEFT, 11 how far, for the MONTH to come");
        int[][] due = {{2, 3, 40}, {5, 6, 70}};
        toCome(x, due);
        x.start(16);
        x.close();
        toCome(x, new int[][] {{0, 0, 0}, {0, 0, 0}});
        x.undo();
        toCome(x, due);
    }

    private static void toCome(ProcessDesk x, int[][] due) {
        for (int department = 0; department < due.length; department++) {
            for (int what = 0; what < 3; what++) {
                int d = department;
                int w = what + 9;
                Check.is("department(" + d + ", " + w + ")", due[department][what], () -> x.department(d, w));
            }
        }
    }

    private static void departmentByDepartment() {
        Check.sentence("A MONTH is CLOSED, DEPARTMENT by DEPARTMENT");
        ProcessDesk x = Check.deskOf("dept average 0 0 0;dept first 0 0 0;dept average 0 0 0;product 100 1 0;");
        x.start(30);
        x.spend(0, 3, 300);
        x.left(0, 4, 100);
        x.left(1, 6, 0);
        x.lost(2, 5);
        Check.is("close", 150, x::close);
        Check.sentence("RECEIVED ones (STARTED; else FINISHED by the one ahead, with all their cents as KIND 0)");
        int[][] due = {{0, 30, 26, 0}, {0, 26, 20, 0}, {0, 20, 15, 5}};
        long[] received = {0, 260, 200};
        for (int department = 0; department < 3; department++) {
            int d = department;
            for (int what = 0; what < 4; what++) {
                int w = what;
                Check.is("units(" + d + ", " + w + ")", due[department][what], () -> x.units(d, w));
            }
            Check.is("cents received by " + d, received[department], () -> x.cents(d, 0, 0));
        }
        Check.is("five are lost, and not as normal ones", 50, () -> x.loss(2, 2));
        Check.is("out", 150, () -> x.loss(2, 4));
    }

    private static void inWorkNow() {
        Check.sentence("What is in work now in a DEPARTMENT (OPENING of the MONTH to come)");
        ProcessDesk x = new ProcessDesk();
        x.start(10);
        x.spend(0, 3, 100);
        x.left(0, 10, 25);
        Check.is("nothing yet", 0, () -> x.work(0, 0));
        x.close();
        Check.is("units in work", 10, () -> x.work(0, 0));
        Check.is("how far", 25, () -> x.work(0, 1));
        Check.is("cents of work", 100, () -> x.work(0, 5));
        Check.is("they were not there when the month was opened", 0, () -> x.units(0, 0));
        Check.is("close", 100, x::close);
        Check.is("they were opening", 10, () -> x.units(0, 0));
        Check.is("nothing is in work", 0, () -> x.work(0, 0));
        Check.is("nor far", 0, () -> x.work(0, 1));
        Check.is("nor cents", 0, () -> x.work(0, 5));
    }

    private static void outIsParted() {
        Check.sentence("OUT of the last DEPARTMENT is parted");
        ProcessDesk x = Check.deskOf("dept average 0 0 0;dept average 0 0 0;product 25 8 0;product 75 4 2;");
        x.start(100);
        x.spend(0, 3, 400);
        x.left(1, 20, 100);
        Check.is("close", 320, x::close);
        Check.sentence("of 100 units that the last DEPARTMENT finishes so many");
        long[][] due = {{20, 160, 183}, {60, 120, 137}};
        for (int product = 0; product < 2; product++) {
            for (int what = 0; what < 3; what++) {
                int p = product;
                int w = what;
                Check.is("parted(" + p + ", " + w + ")", due[product][what], () -> x.parted(p, w));
            }
        }
    }

    private static void soldUnitsLeave() {
        Check.sentence("SOLD units leave the STORE");
        ProcessDesk x = new ProcessDesk();
        x.start(10);
        x.spend(0, 3, 100);
        x.close();
        Check.is("sell", 40, () -> x.sell(0, 4));
        Check.is("units", 6, () -> x.store(0, 0));
        Check.is("cents", 60, () -> x.store(0, 1));
        Check.is("sold so far", 40, () -> x.account(1));
        Check.is("in the store", 60, () -> x.account(5));
        Check.is("what came stays as it was told", 100, () -> x.parted(0, 2));
    }

    private static void flows() {
        Check.sentence("of DEPARTMENT 0 n times 1,000,000, of others what PASSES the one ahead; and what comes BACK "
                + "to it");
        ProcessDesk x = Check.deskOf("dept first 0 10 0;dept first 0 20 0 back 1 50;product 100 1 0;");
        Check.is("flow of 0", 1_000_000, () -> x.plan(1, 0));
        Check.is("flow of 1", 999_999, () -> x.plan(1, 1));
        Check.is("passes", 800_000, () -> x.plan(1, 5));
        Check.is("rounds", 7, () -> x.plan(1, 6));
    }

    private static void anotherNumber() {
        Check.sentence("IllegalArgumentException: another number (so below)");
        Check.Make make = () -> Check.deskOf("dept average 0 0 0;product 100 1 0;");
        for (int number : new int[] {LEAST, -1, MOST}) {
            Check.refusedAlone("text", Check.ARGUMENT, make, x -> x.text(number));
            Check.refusedAlone("start", Check.ARGUMENT, make, x -> x.start(number));
            Check.refusedAlone("spend", Check.ARGUMENT, make, x -> x.spend(0, 3, number));
            Check.refusedAlone("lost", Check.ARGUMENT, make, x -> x.lost(0, number));
            Check.refusedAlone("left", Check.ARGUMENT, make, x -> x.left(0, number, 0));
            Check.refusedAlone("left so far", Check.ARGUMENT, make, x -> x.left(0, 0, number));
            Check.refusedAlone("sell", Check.ARGUMENT, make, x -> x.sell(0, number));
            Check.refusedAlone("told", Check.ARGUMENT, make, x -> x.told(number));
            Check.refusedAlone("department", Check.ARGUMENT, make, x -> x.department(0, number));
            Check.refusedAlone("product", Check.ARGUMENT, make, x -> x.product(0, number));
            Check.refusedAlone("work", Check.ARGUMENT, make, x -> x.work(0, number));
            Check.refusedAlone("units", Check.ARGUMENT, make, x -> x.units(0, number));
            Check.refusedAlone("asDone", Check.ARGUMENT, make, x -> x.asDone(0, 0, number));
            Check.refusedAlone("cents", Check.ARGUMENT, make, x -> x.cents(0, 0, number));
            Check.refusedAlone("loss", Check.ARGUMENT, make, x -> x.loss(0, number));
            Check.refusedAlone("parted", Check.ARGUMENT, make, x -> x.parted(0, number));
            Check.refusedAlone("store", Check.ARGUMENT, make, x -> x.store(0, number));
            Check.refusedAlone("account", Check.ARGUMENT, make, x -> x.account(number));
            Check.refusedAlone("plan of so many", Check.ARGUMENT, make, x -> x.plan(number, 0));
            Check.refusedAlone("plan of what", Check.ARGUMENT, make, x -> x.plan(0, number));
        }
    }
}
