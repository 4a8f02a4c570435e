/** The edges of a MONTH, a sentence of the document each. */
public final class MonthEdgeTest {
    private static final String P = "product 100 1 0;";
    private static final String HALF_POINT = "dept average 50 50 0;" + P;

    public static void main(String[] args) {
        startedInTheFirst();
        openingNoneAtFirst();
        openingAsLeft();
        openingOfNoUnits();
        receivedWithAllCents();
        finishedNone();
        finishedBelowNothing();
        finishedFewerThanOpened();
        doneOfMaterials();
        doneOfWork();
        asDoneFirstIn();
        pools();
        cutEach();
        noUnitsAsDone();
        noUnitsAsDoneFirstIn();
        openingCentsFirstIn();
        comeOfLeft();
        comeOfOpening();
        normalAtMost();
        normalCut();
        comeBelowNothing();
        normalCents();
        netNotBelowNothing();
        netBornByLeft();
        netBornAtPointNothing();
        netBornByNeither();
        abnormalBelowNothing();
        outWithNet();
        largestUnits();
        nextMonthIsEmpty();
        otherWay();
        otherCouldNotBe();
        centsSoFar();
        aheadOfAnyMonth();
        closeAnswersOut();
        Check.end("MonthEdgeTest");
    }

    private static void units(ProcessDesk x, int d, int... due) {
        for (int what = 0; what < due.length; what++) {
            int of = what;
            Check.is("units(" + d + ", " + what + ")", due[what], () -> x.units(d, of));
        }
    }

    private static void done(ProcessDesk x, int d, int kind, int... due) {
        for (int what = 0; what < due.length; what++) {
            int of = what;
            Check.is("asDone(" + d + ", " + kind + ", " + what + ")", due[what], () -> x.asDone(d, kind, of));
        }
    }

    private static void cents(ProcessDesk x, int d, int kind, long... due) {
        for (int what = 0; what < due.length; what++) {
            int of = what;
            Check.is("cents(" + d + ", " + kind + ", " + what + ")", due[what], () -> x.cents(d, kind, of));
        }
    }

    private static void loss(ProcessDesk x, int d, long... due) {
        for (int what = 0; what < due.length; what++) {
            int of = what;
            Check.is("loss(" + d + ", " + what + ")", due[what], () -> x.loss(d, of));
        }
    }

    private static void work(ProcessDesk x, int d, long... due) {
        for (int what = 0; what < due.length; what++) {
            int of = what;
            Check.is("work(" + d + ", " + what + ")", due[what], () -> x.work(d, of));
        }
    }

    private static void startedInTheFirst() {
        Check.sentence("units STARTED (in DEPARTMENT 0)");
        ProcessDesk x = Check.deskOf("dept first 0 0 0;dept first 0 0 0;" + P);
        x.start(7);
        x.left(0, 7, 10);
        x.close();
        units(x, 0, 0, 7, 0, 0, 0, 7);
        units(x, 1, 0, 0, 0, 0, 0, 0);
    }

    private static void openingNoneAtFirst() {
        Check.sentence("and cents of each KIND; none at first)");
        ProcessDesk x = Check.deskOf("dept first 0 0 0;mat 0 0;mat 0 0;dept average 0 0 0;" + P);
        work(x, 0, 0, 0, 0, 0, 0, 0);
        work(x, 1, 0, 0, 0, 0, 0, 0);
        x.start(1);
        x.close();
        units(x, 0, 0, 1, 1);
        units(x, 1, 0, 1, 1);
    }

    private static void openingAsLeft() {
        Check.sentence("OPENING units (as LEFT in the MONTH ahead, with their hundredths");
        ProcessDesk x = Check.deskOf("dept first 50 50 0;mat 0 0;mat 0 90;" + P);
        x.start(12);
        x.spend(0, 1, 120);
        x.spend(0, 2, 50);
        x.spend(0, 3, 80);
        x.lost(0, 5);
        x.left(0, 3, 50);
        x.close();
        // kind 1: 120 over 12 units; kind 2: finished alone; work: 400 + 150 + 250
        cents(x, 0, 1, 120, 40, 30, 50);
        cents(x, 0, 2, 50, 50, 0, 0);
        cents(x, 0, 3, 80, 40, 15, 25);
        // net 75 goes to 3 left and 4 finished, so 32 to those that are left
        loss(x, 0, 75, 32, 0, 0, 130 + 43);
        work(x, 0, 3, 50, 0, 30, 0, 15 + 32);
        x.close();
        units(x, 0, 3, 0, 3, 0, 0, 0);
        cents(x, 0, 1, 0, 30, 0, 0);
        cents(x, 0, 3, 0, 47, 0, 0);
        loss(x, 0, 0, 0, 0, 0, 77);
        work(x, 0, 0, 0, 0, 0, 0, 0);
    }

    private static void openingOfNoUnits() {
        Check.sentence("0 of 0 units");
        ProcessDesk x = new ProcessDesk();
        x.left(0, 0, 100);
        Check.is("as told for the month", 100, () -> x.department(0, 11));
        x.close();
        work(x, 0, 0, 0, 0, 0, 0, 0);
        x.start(1);
        x.left(0, 1, 100);
        x.close();
        work(x, 0, 1, 100);
        x.left(0, 0, 100);
        x.close();
        work(x, 0, 0, 0);
    }

    private static void receivedWithAllCents() {
        Check.sentence("FINISHED by the one ahead, with all their cents as KIND 0");
        ProcessDesk x = Check.deskOf("dept first 100 10 0;dept average 0 0 0;dept first 0 0 0;" + P);
        x.start(10);
        x.spend(0, 3, 100);
        x.spend(1, 3, 7);
        x.lost(0, 1);
        x.close();
        // what was lost is borne by the 9 that are finished, so their cents have it too
        loss(x, 0, 10, 0, 0, 0, 100);
        units(x, 1, 0, 9, 9);
        cents(x, 1, 0, 100, 100, 0, 0);
        units(x, 2, 0, 9, 9);
        cents(x, 2, 0, 107, 107, 0, 0);
        cents(x, 0, 0, 0, 0, 0, 0);
    }

    private static void finishedNone() {
        Check.sentence("FINISHED: OPENING and RECEIVED less LOST and LEFT");
        ProcessDesk x = new ProcessDesk();
        x.start(10);
        x.lost(0, 4);
        x.left(0, 6, 50);
        Check.is("none is finished", 0, x::close);
        units(x, 0, 0, 10, 0, 4, 0, 6);
        x.start(5);
        x.lost(0, 2);
        x.left(0, 8, 50);
        x.close();
        units(x, 0, 6, 5, 1, 2, 0, 8);
    }

    private static ProcessDesk oneTooMany(int lost, int left) {
        ProcessDesk x = Check.deskOf("dept average 50 10 3;dept average 50 10 3;" + P);
        x.start(20);
        x.spend(0, 3, 500);
        x.left(1, 8, 50);
        x.close();
        x.start(3);
        x.spend(1, 3, 7);
        x.lost(1, lost);
        x.left(1, left, 40);
        return x;
    }

    private static void finishedBelowNothing() {
        Check.sentence("IllegalStateException: FINISHED would be below 0 somewhere");
        Check.refusedAlone("one is left too many", Check.STATE, () -> oneTooMany(0, 12), ProcessDesk::close);
        Check.refusedAlone("one is lost too many", Check.STATE, () -> oneTooMany(12, 0), ProcessDesk::close);
        Check.refusedAlone("both together", Check.STATE, () -> oneTooMany(6, 6), ProcessDesk::close);
        Check.refusedAlone("far too many", Check.STATE, () -> oneTooMany(50_000, 50_000), ProcessDesk::close);
        ProcessDesk x = oneTooMany(5, 6);
        Check.same("none is finished", true, Check.outcome(x::close) instanceof Long);
        units(x, 1, 8, 3, 0, 5, 0, 6, -3);
        Check.refusedAlone("of the first department alone", Check.STATE, () -> {
            ProcessDesk y = oneTooMany(0, 0);
            y.lost(0, 4);
            return y;
        }, ProcessDesk::close);
    }

    private static ProcessDesk opened(String way, int left) {
        ProcessDesk x = Check.deskOf("dept average 0 0 0;dept " + way + " 0 0 0;" + P);
        x.start(10);
        x.spend(1, 3, 100);
        x.left(1, 5, 50);
        x.close();
        x.start(3);
        x.left(1, left, 50);
        return x;
    }

    private static void finishedFewerThanOpened() {
        Check.sentence("or, by FIRST-IN, fewer than OPENING");
        Check.refusedAlone("4 of 5", Check.STATE, () -> opened("first", 4), ProcessDesk::close);
        Check.refusedAlone("none of 5", Check.STATE, () -> opened("first", 8), ProcessDesk::close);
        ProcessDesk x = opened("first", 3);
        x.close();
        units(x, 1, 5, 3, 5, 0, 0, 3);
        ProcessDesk y = opened("average", 4);
        y.close();
        units(y, 1, 5, 3, 4, 0, 0, 4);
    }

    private static void doneOfMaterials() {
        Check.sentence("100 for a MATERIAL that is added at p or ahead of it, 0 else");
        int[] far = {39, 40, 41};
        int[] due = {0, 300, 300};
        for (int i = 0; i < 3; i++) {
            ProcessDesk x = Check.deskOf("dept average " + far[i] + " 0 0;mat 0 40;mat 0 100;" + P);
            x.start(10);
            x.left(0, 3, far[i]);
            x.lost(0, 3);
            x.close();
            done(x, 0, 1, 400 + 2 * due[i], 400, due[i], due[i]);
            done(x, 0, 2, 400, 400, 0, 0);
        }
        ProcessDesk x = Check.deskOf("dept average 100 0 0;mat 0 0;mat 0 100;" + P);
        x.start(10);
        x.left(0, 3, 0);
        x.lost(0, 2);
        x.close();
        done(x, 0, 1, 1000, 500, 300, 200);
        done(x, 0, 2, 700, 500, 0, 200);
        x.left(0, 3, 100);
        x.close();
        done(x, 0, 2, 300, 0, 300, 0);
    }

    private static void doneOfWork() {
        Check.sentence("DONE of a KIND, of a unit at p hundredths: 100 for KIND 0");
        for (int p : new int[] {0, 1, 99, 100}) {
            ProcessDesk x = Check.deskOf("dept average " + p + " 0 0;" + P);
            x.start(10);
            x.left(0, 3, p);
            x.lost(0, 2);
            x.close();
            done(x, 0, 0, 1000, 500, 300, 200);
            done(x, 0, 3, 500 + 5 * p, 500, 3 * p, 2 * p);
        }
    }

    private static void asDoneFirstIn() {
        Check.sentence("by FIRST-IN that less OPENING units times their DONE");
        ProcessDesk x = Check.deskOf("dept first 0 0 0;mat 0 40;mat 0 41;" + P);
        x.start(10);
        x.left(0, 10, 40);
        x.close();
        x.start(2);
        x.close();
        done(x, 0, 0, 200, 200, 0, 0);
        done(x, 0, 1, 200, 200, 0, 0);
        done(x, 0, 2, 1200, 1200, 0, 0);
        done(x, 0, 3, 800, 800, 0, 0);
        ProcessDesk y = Check.deskOf("dept average 0 0 0;mat 0 40;mat 0 41;" + P);
        y.start(10);
        y.left(0, 10, 40);
        y.close();
        y.start(2);
        y.close();
        for (int kind = 0; kind < 4; kind++) {
            done(y, 0, kind, 1200, 1200, 0, 0);
        }
    }

    private static void pools() {
        Check.sentence("POOL of a KIND: cents SPENT (RECEIVED for KIND 0), by AVERAGE those of OPENING besides");
        String[] ways = {"first", "average"};
        for (int way = 0; way < 2; way++) {
            ProcessDesk x = Check.deskOf("dept average 0 0 0;dept " + ways[way] + " 0 0 0;mat 1 0;" + P);
            x.start(10);
            x.spend(0, 3, 100);
            x.spend(1, 1, 200);
            x.spend(1, 3, 300);
            x.left(1, 10, 50);
            x.close();
            cents(x, 1, 0, 100, 0, 100, 0);
            x.start(10);
            x.spend(0, 3, 11);
            x.spend(1, 1, 22);
            x.spend(1, 3, 33);
            Check.is("all comes out in the end", 666, x::close);
            cents(x, 1, 0, 11 + way * 100, 111, 0, 0);
            cents(x, 1, 1, 22 + way * 200, 222, 0, 0);
            cents(x, 1, 3, 33 + way * 300, 333, 0, 0);
        }
    }

    private static void cutEach() {
        Check.sentence("Of the POOL LEFT, LOST get: POOL times their units AS DONE by all units AS DONE, cut, each");
        ProcessDesk x = Check.deskOf("dept average 100 0 0;" + P);
        x.start(3);
        x.spend(0, 3, 5);
        x.left(0, 1, 100);
        x.lost(0, 1);
        x.close();
        // 5 / 3 each, twice cut
        cents(x, 0, 3, 5, 3, 1, 1);
        ProcessDesk y = Check.deskOf("dept average 100 0 0;" + P);
        y.start(3);
        y.spend(0, 3, 2);
        y.left(0, 1, 100);
        y.lost(0, 1);
        y.close();
        cents(y, 0, 3, 2, 2, 0, 0);
        ProcessDesk z = Check.deskOf("dept average 100 0 0;" + P);
        z.start(3);
        z.spend(0, 3, 3);
        z.left(0, 1, 100);
        z.lost(0, 1);
        z.close();
        cents(z, 0, 3, 3, 1, 1, 1);
    }

    private static void noUnitsAsDone() {
        Check.sentence("FINISHED the rest (all, if there are no units AS DONE)");
        ProcessDesk x = Check.deskOf("dept average 0 0 0;mat 0 1;" + P);
        x.start(9);
        x.spend(0, 1, 40);
        x.spend(0, 3, 50);
        x.left(0, 5, 0);
        x.lost(0, 4);
        Check.is("out of none that is finished", 90, x::close);
        done(x, 0, 1, 0, 0, 0, 0);
        done(x, 0, 3, 0, 0, 0, 0);
        cents(x, 0, 1, 40, 40, 0, 0);
        cents(x, 0, 3, 50, 50, 0, 0);
        work(x, 0, 5, 0, 0, 0, 0, 0);
        ProcessDesk y = new ProcessDesk();
        y.spend(0, 3, 6);
        Check.is("no units at all", 6, y::close);
        units(y, 0, 0, 0, 0, 0, 0, 0, 0);
        cents(y, 0, 0, 0, 0, 0, 0);
        cents(y, 0, 3, 6, 6, 0, 0);
    }

    private static void noUnitsAsDoneFirstIn() {
        Check.sentence("(all, if there are no units AS DONE); by FIRST-IN FINISHED have the cents of OPENING besides");
        ProcessDesk x = Check.deskOf("dept first 0 0 0;" + P);
        x.start(4);
        x.spend(0, 3, 70);
        x.left(0, 4, 100);
        Check.is("none is finished", 0, x::close);
        work(x, 0, 4, 100, 0, 0, 0, 70);
        x.spend(0, 3, 9);
        Check.is("all that was opened and spent", 79, x::close);
        done(x, 0, 3, 0, 0, 0, 0);
        cents(x, 0, 3, 9, 79, 0, 0);
    }

    private static void openingCentsFirstIn() {
        Check.sentence("by FIRST-IN FINISHED have the cents of OPENING besides");
        ProcessDesk x = Check.deskOf("dept first 0 0 0;" + P);
        x.start(2);
        x.spend(0, 3, 100);
        x.left(0, 2, 50);
        x.close();
        x.start(2);
        x.spend(0, 3, 30);
        x.left(0, 2, 50);
        x.close();
        // 30 over 200 - 100 and 100
        cents(x, 0, 3, 30, 115, 15, 0);
        work(x, 0, 2, 50, 0, 0, 0, 15);
        x.left(0, 0, 0);
        Check.is("what was left", 15, x::close);
    }

    private static ProcessDesk leftAt(int point, int far) {
        ProcessDesk x = Check.deskOf("dept average " + point + " 50 0;" + P);
        x.start(20);
        x.lost(0, 6);
        x.left(0, 9, far);
        x.close();
        return x;
    }

    private static void comeOfLeft() {
        Check.sentence("COME to the POINT: FINISHED and LOST, and LEFT if their hundredths are the POINT or more");
        units(leftAt(50, 49), 0, 0, 20, 5, 6, 5, 9, 11);
        units(leftAt(50, 50), 0, 0, 20, 5, 6, 6, 9, 20);
        units(leftAt(50, 51), 0, 0, 20, 5, 6, 6, 9, 20);
        units(leftAt(0, 0), 0, 0, 20, 5, 6, 6, 9, 20);
        units(leftAt(1, 0), 0, 0, 20, 5, 6, 5, 9, 11);
        units(leftAt(100, 99), 0, 0, 20, 5, 6, 5, 9, 11);
        units(leftAt(100, 100), 0, 0, 20, 5, 6, 6, 9, 20);
    }

    private static ProcessDesk openedAt(int point, int far) {
        ProcessDesk x = Check.deskOf("dept average " + point + " 50 0;" + P);
        x.start(9);
        x.left(0, 9, far);
        x.close();
        x.start(11);
        x.lost(0, 8);
        x.close();
        return x;
    }

    private static void comeOfOpening() {
        Check.sentence("less OPENING if theirs were");
        units(openedAt(50, 49), 0, 9, 11, 12, 8, 8, 0, 20);
        units(openedAt(50, 50), 0, 9, 11, 12, 8, 5, 0, 11);
        units(openedAt(50, 51), 0, 9, 11, 12, 8, 5, 0, 11);
        units(openedAt(0, 0), 0, 9, 11, 12, 8, 5, 0, 11);
        units(openedAt(1, 0), 0, 9, 11, 12, 8, 8, 0, 20);
        units(openedAt(100, 99), 0, 9, 11, 12, 8, 8, 0, 20);
        units(openedAt(100, 100), 0, 9, 11, 12, 8, 5, 0, 11);
    }

    private static void normal(int rate, int started, int lost, int due) {
        ProcessDesk x = Check.deskOf("dept average 100 " + rate + " 0;" + P);
        x.start(started);
        x.lost(0, lost);
        x.close();
        units(x, 0, 0, started, started - lost, lost, due, 0, started);
    }

    private static void normalAtMost() {
        Check.sentence("NORMAL: LOST, but no more than RATE of 100 of those that COME");
        normal(10, 100, 0, 0);
        normal(10, 100, 9, 9);
        normal(10, 100, 10, 10);
        normal(10, 100, 11, 10);
        normal(10, 100, 100, 10);
        normal(0, 100, 1, 0);
        normal(50, 100, 51, 50);
    }

    private static void normalCut() {
        Check.sentence("(cut; 0, if these are below 0)");
        normal(50, 1, 1, 0);
        normal(50, 2, 2, 1);
        normal(50, 3, 3, 1);
        normal(33, 10, 10, 3);
        normal(1, 99, 99, 0);
        normal(1, 100, 99, 1);
        normal(50, 10_000, 10_000, 5_000);
    }

    private static ProcessDesk comeBelow(int lost, int started) {
        ProcessDesk x = Check.deskOf(HALF_POINT);
        x.start(10);
        x.left(0, 10, 50);
        x.close();
        if (started > 0) {
            x.start(started);
        }
        x.lost(0, lost);
        x.left(0, 10 + started - lost, 49);
        x.close();
        return x;
    }

    private static void comeBelowNothing() {
        Check.sentence("0, if these are below 0)");
        units(comeBelow(4, 0), 0, 10, 0, 0, 4, 0, 6, -6);
        units(comeBelow(9, 0), 0, 10, 0, 0, 9, 0, 1, -1);
        units(comeBelow(10, 0), 0, 10, 0, 0, 10, 0, 0, 0);
        units(comeBelow(11, 1), 0, 10, 1, 0, 11, 0, 0, 1);
        units(comeBelow(12, 2), 0, 10, 2, 0, 12, 1, 0, 2);
        units(comeBelow(0, 0), 0, 10, 0, 0, 0, 0, 10, -10);
    }

    private static void normalCents() {
        Check.sentence("Of all cents of LOST: NORMAL times these by LOST, cut, are for NORMAL ones, the rest for others");
        ProcessDesk x = Check.deskOf("dept average 100 10 0;mat 0 0;" + P);
        x.start(13);
        x.spend(0, 1, 218);
        x.spend(0, 3, 217);
        x.lost(0, 3);
        Check.is("close", 335 + 33, x::close);
        // 218 * 3 / 13 and 217 * 3 / 13: 50 of each kind, so 100 in all; a third of these is 33
        cents(x, 0, 1, 218, 168, 0, 50);
        cents(x, 0, 3, 217, 167, 0, 50);
        units(x, 0, 0, 13, 10, 3, 1, 0, 13);
        loss(x, 0, 33, 0, 67, 0, 368);
        ProcessDesk y = new ProcessDesk();
        y.start(1);
        y.spend(0, 3, 5);
        y.close();
        loss(y, 0, 0, 0, 0, 0, 5);
    }

    private static ProcessDesk scrapOf(int scrap) {
        ProcessDesk x = Check.deskOf("dept average 100 50 " + scrap + ";" + P);
        x.start(10);
        x.spend(0, 3, 100);
        x.lost(0, 5);
        x.close();
        return x;
    }

    private static void netNotBelowNothing() {
        Check.sentence("NET: cents for NORMAL ones less SCRAP of these (0 at least)");
        loss(scrapOf(0), 0, 50, 0, 0, 0, 100);
        loss(scrapOf(9), 0, 5, 0, 0, 45, 55);
        loss(scrapOf(10), 0, 0, 0, 0, 50, 50);
        loss(scrapOf(11), 0, 0, 0, 0, 55, 50);
        loss(scrapOf(999), 0, 0, 0, 0, 4995, 50);
    }

    private static ProcessDesk bearing(int far, int finished) {
        ProcessDesk x = Check.deskOf(HALF_POINT);
        x.start(8 + finished);
        x.spend(0, 3, (finished * 100 + 3 * far + 250) / 10);
        x.lost(0, 5);
        x.left(0, 3, far);
        x.close();
        return x;
    }

    private static void netBornByLeft() {
        Check.sentence("NET times LEFT by LEFT and FINISHED, cut, goes to LEFT (KIND 3), the rest to FINISHED");
        ProcessDesk x = bearing(50, 4);
        units(x, 0, 0, 12, 4, 5, 5, 3, 12);
        cents(x, 0, 3, 80, 40, 15, 25);
        loss(x, 0, 25, 10, 0, 0, 55);
        work(x, 0, 3, 50, 0, 0, 0, 25);
        ProcessDesk y = bearing(60, 4);
        cents(y, 0, 3, 83, 40, 18, 25);
        loss(y, 0, 25, 10, 0, 0, 55);
        work(y, 0, 3, 60, 0, 0, 0, 28);
        // ahead of the point 9 come, and 4 of these are normal: 4 / 5 of 25 cents
        ProcessDesk z = bearing(40, 4);
        units(z, 0, 0, 12, 4, 5, 4, 3, 9);
        cents(z, 0, 3, 77, 40, 12, 25);
        loss(z, 0, 20, 0, 5, 0, 60);
        work(z, 0, 3, 40, 0, 0, 0, 12);
    }

    private static void netBornAtPointNothing() {
        Check.sentence("It is borne by FINISHED and, if LEFT are at the POINT or more, by these");
        ProcessDesk x = Check.deskOf("dept average 100 0 0;dept average 0 50 0;" + P);
        x.start(10);
        x.spend(0, 3, 100);
        x.lost(1, 3);
        x.left(1, 4, 0);
        // 30 cents are lost, 4 that are left at 0 and 3 that are finished bear them
        Check.is("close", 30 + 13, x::close);
        units(x, 1, 0, 10, 3, 3, 3, 4, 10);
        loss(x, 1, 30, 17, 0, 0, 43);
        work(x, 1, 4, 0, 40, 0, 0, 17);
        cents(x, 1, 3, 0, 0, 0, 0);
        ProcessDesk y = Check.deskOf("dept average 100 0 0;dept average 1 50 0;" + P);
        y.start(10);
        y.spend(0, 3, 100);
        y.lost(1, 3);
        y.left(1, 4, 0);
        Check.is("a hundredth ahead of the point they bear none", 30 + 30, y::close);
        loss(y, 1, 30, 0, 0, 0, 60);
        work(y, 1, 4, 0, 40, 0, 0, 0);
    }

    private static void netBornByNeither() {
        Check.sentence("if there are neither, it is ABNORMAL, too");
        // nothing is finished, and 3 are left ahead of the point: 5 come, 2 are normal, 10 cents of 25
        ProcessDesk x = bearing(40, 0);
        units(x, 0, 0, 8, 0, 5, 2, 3, 5);
        loss(x, 0, 10, 0, 25, 0, 0);
        work(x, 0, 3, 40, 0, 0, 0, 12);
        // 3 are left at the point: 8 come, 4 are normal, all 20 cents go to those that are left
        ProcessDesk y = bearing(50, 0);
        loss(y, 0, 20, 20, 5, 0, 0);
        work(y, 0, 3, 50, 0, 0, 0, 35);
        // one is finished and bears all
        ProcessDesk z = bearing(40, 1);
        loss(z, 0, 15, 0, 10, 0, 25);
        ProcessDesk v = Check.deskOf("dept average 100 50 3;" + P);
        v.start(4);
        v.spend(0, 3, 40);
        v.lost(0, 4);
        Check.is("all is lost", 0, v::close);
        loss(v, 0, 14, 0, 14 + 14, 12, 0);
        Check.is("all of it is abnormal", 28, () -> v.account(2));
    }

    private static void abnormalBelowNothing() {
        Check.sentence("ABNORMAL: cents for others less their SCRAP (it may be below 0)");
        long[] due = {10, 0, -10};
        for (int i = 0; i < 3; i++) {
            ProcessDesk x = Check.deskOf("dept average 100 10 " + (9 + i) + ";" + P);
            x.start(100);
            x.spend(0, 3, 1000);
            x.lost(0, 20);
            x.close();
            loss(x, 0, i == 0 ? 10 : 0, 0, due[i], 20 * (9 + i), i == 0 ? 810 : 800);
            int at = i;
            Check.is("so far", due[at], () -> x.account(2));
        }
        ProcessDesk y = Check.deskOf("dept average 0 0 999;" + P);
        y.start(10_000);
        y.lost(0, 10_000);
        y.close();
        loss(y, 0, 0, 0, -9_990_000, 9_990_000, 0);
    }

    private static void outWithNet() {
        Check.sentence("OUT: all cents of FINISHED, and their part of NET");
        ProcessDesk x = bearing(50, 4);
        Check.is("out", 40 + 15, () -> x.loss(0, 4));
        ProcessDesk y = Check.deskOf("dept average 100 50 0;mat 0 0;mat 0 0;dept average 100 50 0;mat 1 0;" + P);
        y.start(4);
        y.spend(0, 1, 40);
        y.spend(0, 2, 80);
        y.spend(0, 3, 120);
        y.lost(0, 1);
        y.left(0, 1, 0);
        y.spend(1, 1, 20);
        y.spend(1, 3, 2);
        y.lost(1, 1);
        // of 40 and 80 a quarter is lost and a quarter left, of 120 a third is lost
        Check.is("close", 210 + 20 + 2, y::close);
        loss(y, 0, 70, 0, 0, 0, 210);
        loss(y, 1, 116, 0, 0, 0, 232);
    }

    /** All that may be left is left, then all of it is finished at once. */
    private static void largestUnits() {
        Check.sentence("LEFT units of the MONTH (0 to 50,000), how far they are (0 to 100)");
        String dept = "dept average 100 50 999;";
        ProcessDesk x = Check.deskOf(dept + dept + dept + dept + dept + "product 100 9999 0;");
        for (int filled = 4; filled >= 0; filled--) {
            for (int i = 1; i <= 5; i++) {
                x.start(10_000);
                for (int d = filled + 1; d < 5; d++) {
                    x.left(d, 50_000, 100);
                }
                x.left(filled, 10_000 * i, 100);
                x.close();
            }
        }
        x.start(10_000);
        x.spend(0, 3, 100_000_000);
        Check.is("all is finished", 100_000_000, x::close);
        units(x, 4, 50_000, 210_000, 260_000, 0, 0, 0, 210_000);
        done(x, 4, 3, 26_000_000, 26_000_000, 0, 0);
        Check.is("worth", 2_599_740_000L, () -> x.parted(0, 1));
        Check.is("in the store", 260_000, () -> x.store(0, 0));
    }

    private static void nextMonthIsEmpty() {
        Check.sentence("The MONTH is CLOSED (nothing is STARTED, SPENT, LOST, LEFT for the next one)");
        ProcessDesk x = Check.deskOf("dept average 0 0 0;mat 0 0;mat 0 0;" + P);
        x.start(10_000);
        x.spend(0, 1, 100_000_000);
        x.spend(0, 2, 100_000_000);
        x.spend(0, 3, 100_000_000);
        x.lost(0, 50);
        x.left(0, 60, 70);
        x.close();
        Check.is("started", 0, () -> x.told(3));
        Check.is("lost", 0, () -> x.department(0, 9));
        Check.is("left", 0, () -> x.department(0, 10));
        Check.is("how far", 0, () -> x.department(0, 11));
        Check.is("start", 10_000, () -> x.start(10_000));
        for (int kind = 1; kind <= 3; kind++) {
            int of = kind;
            Check.is("spend", 100_000_000, () -> x.spend(0, of, 100_000_000));
        }
        Check.is("lost ahead", 0, () -> x.lost(0, 1));
        Check.is("left ahead", 0, () -> x.left(0, 1, 1));
    }

    private static void otherWay() {
        Check.sentence("Likewise OUT, were the DEPARTMENT by the other way (with what was RECEIVED as it was)");
        String[] ways = {"first", "average"};
        for (int i = 0; i < 2; i++) {
            ProcessDesk x = Check.deskOf("dept " + ways[i] + " 0 0 0;dept " + ways[i] + " 0 0 0;" + P);
            x.start(2);
            x.spend(0, 3, 100);
            x.left(0, 2, 50);
            x.close();
            x.start(2);
            x.spend(0, 3, 30);
            x.left(0, 2, 50);
            x.close();
            // by average 130 over 200 and 100, so 43 stay
            long own = i == 0 ? 115 : 87;
            long other = i == 0 ? 87 : 115;
            Check.is("out", own, () -> x.loss(0, 4));
            Check.is("the other way", other, () -> x.other(0));
            Check.is("what the next received is as it was", own, () -> x.other(1));
            Check.is("asked, nothing stays changed", own, () -> x.loss(0, 4));
            work(x, 0, 2, 50, 0, 0, 0, 130 - own);
        }
        ProcessDesk y = Check.deskOf("dept average 100 0 0;" + P);
        y.start(2);
        y.spend(0, 3, 100);
        y.left(0, 2, 50);
        y.close();
        y.start(2);
        y.spend(0, 3, 60);
        y.lost(0, 2);
        // by average half of 160; first-in 100 and a third of 60
        Check.is("out", 80, y::close);
        Check.is("the other way, with what was lost", 120, () -> y.other(0));
    }

    private static void otherCouldNotBe() {
        Check.sentence("NONE: that MONTH could not be so (FIRST-IN), none was CLOSED");
        ProcessDesk x = opened("average", 4);
        x.close();
        Check.is("4 of 5 that were opened", -1, () -> x.other(1));
        ProcessDesk y = opened("average", 3);
        y.close();
        Check.is("5 of 5", 33, () -> y.other(1));
        Check.is("of the one ahead", 0, () -> y.other(0));
        ProcessDesk z = new ProcessDesk();
        Check.is("none was closed", -1, () -> z.other(0));
        z.start(1);
        Check.is("not yet", -1, () -> z.other(0));
        z.close();
        Check.is("one was", 0, () -> z.other(0));
        z.undo();
        Check.is("it was taken back", -1, () -> z.other(0));
        z.close();
        Check.tell(z, "dept average 0 0 0;" + P);
        Check.is("told anew", -1, () -> z.other(0));
    }

    private static void centsSoFar() {
        Check.sentence("So far: 0 cents SPENT in all (MONTHS CLOSED), 1 SOLD, 2 ABNORMAL, 3 SCRAP, 4 in work, "
                + "5 in the STORE");
        ProcessDesk x = Check.deskOf("dept average 100 0 2;dept average 100 0 3;" + P);
        x.start(10);
        x.spend(0, 3, 100);
        x.spend(1, 3, 80);
        x.lost(0, 1);
        x.lost(1, 1);
        Check.is("not closed yet", 0, () -> x.account(0));
        x.close();
        // each of 10 has 10 cents, then each of 9 has 10 of 90 and 8 of 80
        long[] due = {180, 0, 8 + 15, 2 + 3, 0, 152};
        for (int what = 0; what < 6; what++) {
            int of = what;
            Check.is("account " + what, due[what], () -> x.account(of));
        }
        x.sell(0, 4);
        Check.is("sold", 76, () -> x.account(1));
        x.spend(0, 3, 1);
        Check.is("spent in closed months alone", 180, () -> x.account(0));
        x.start(2);
        x.left(0, 2, 50);
        x.close();
        Check.is("spent", 181, () -> x.account(0));
        Check.is("in work", 1, () -> x.account(4));
        Check.is("abnormal stays", 23, () -> x.account(2));
        Check.is("in the store", 76, () -> x.account(5));
    }

    private static void aheadOfAnyMonth() {
        Check.sentence("Of the latest MONTH (all 0 ahead of any) of a DEPARTMENT");
        ProcessDesk x = Check.deskOf("dept average 50 50 9;" + P);
        allNothing(x);
        x.start(20);
        x.spend(0, 3, 200);
        x.lost(0, 3);
        x.left(0, 4, 60);
        allNothing(x);
        x.close();
        units(x, 0, 0, 20, 13, 3, 3, 4, 20);
        x.undo();
        allNothing(x);
        x.close();
        x.close();
        units(x, 0, 4, 0, 4, 0, 0, 0, 0);
    }

    private static void allNothing(ProcessDesk x) {
        units(x, 0, 0, 0, 0, 0, 0, 0, 0);
        loss(x, 0, 0, 0, 0, 0, 0);
        for (int kind = 0; kind < 4; kind += 3) {
            done(x, 0, kind, 0, 0, 0, 0);
            cents(x, 0, kind, 0, 0, 0, 0);
        }
        work(x, 0, 0, 0, 0, 0, 0, 0);
    }

    private static void closeAnswersOut() {
        Check.sentence("OUT of the last DEPARTMENT. IllegalStateException");
        ProcessDesk x = new ProcessDesk();
        Check.is("of nothing", 0, x::close);
        Check.is("a month all the same", 1, () -> x.told(2));
        ProcessDesk y = Check.deskOf("dept average 100 0 0;dept average 100 0 0;" + P);
        y.start(4);
        y.spend(0, 3, 100);
        y.spend(1, 3, 8);
        y.left(1, 1, 100);
        Check.is("of the last alone", 75 + 6, y::close);
        Check.is("of the first", 100, () -> y.loss(0, 4));
        y.spend(0, 3, 100_000_000);
        y.spend(1, 3, 100_000_000);
        Check.is("the most of a month, and what was left", 200_000_027, y::close);
    }
}
