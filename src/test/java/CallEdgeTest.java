import java.util.List;

/** The edges of each call's arguments, what it throws, and that a refused call changes nothing but status(). */
public final class CallEdgeTest {
    private static final int LEAST = Integer.MIN_VALUE;
    private static final int MOST = Integer.MAX_VALUE;

    public static void main(String[] args) {
        feedTwentyBytes();
        feedBeyond();
        textBytes();
        textEmptiesTheTape();
        textNotWithinTheTape();
        faultOfTheLatest();
        startRange();
        startInAll();
        spendRange();
        spendNoSuch();
        spendInAll();
        lostRange();
        leftRange();
        sellNoSuch();
        toldRange();
        departmentRange();
        departmentNone();
        productRange();
        workRange();
        unitsRange();
        asDoneRange();
        centsRange();
        lossRange();
        otherNoSuch();
        partedRange();
        storeRange();
        layerRange();
        accountRange();
        planRange();
        planNoSuch();
        toldFirst();
        statusNone();
        statusCounts();
        Check.end("CallEdgeTest");
    }

    /** Two departments, the first with one material and the second with two; two products; a month and a half. */
    private static ProcessDesk busy() {
        ProcessDesk x = new ProcessDesk();
        Check.tell(x, "dept first 50 10 3;mat 0 20;dept average 30 5 2 back 0 40;mat 1 0;mat 1 60;"
                + "product 70 9 2;product 30 4 1 by;store first;");
        x.start(100);
        x.spend(0, 3, 1000);
        x.spend(1, 2, 500);
        x.lost(0, 12);
        x.left(1, 20, 40);
        x.close();
        x.sell(0, 11);
        x.start(9_000);
        x.spend(0, 1, 99_000_000);
        x.lost(1, 3);
        x.left(0, 7, 80);
        Check.feedAll(x, "dept first 0 0 0;product 100 1 0;");
        return x;
    }

    private static void refused(String what, Class<?> due, Check.CallOn call) {
        Check.refusedAlone(what, due, CallEdgeTest::busy, call);
    }

    private interface Asked {
        long of(ProcessDesk x, int what);
    }

    /** Each of 0 to most is answered, and others are refused. */
    private static void whats(String name, int most, Asked asked) {
        ProcessDesk x = busy();
        for (int what = 0; what <= most; what++) {
            int of = what;
            Check.same(name + " " + what, true, Check.outcome(() -> asked.of(x, of)) instanceof Long);
        }
        for (int what : new int[] {-1, most + 1, LEAST, MOST}) {
            refused(name + " " + what, Check.ARGUMENT, y -> asked.of(y, what));
        }
    }

    private static void noSuch(String name, int there, Asked asked) {
        ProcessDesk x = busy();
        Check.same(name + " " + (there - 1), true,
                Check.outcome(() -> asked.of(x, there - 1)) instanceof Long);
        for (int which : new int[] {-1, there, 5, LEAST, MOST}) {
            refused(name + " " + which, Check.NO_SUCH, y -> asked.of(y, which));
        }
    }

    private static void feedTwentyBytes() {
        Check.sentence("Twenty bytes come on the TAPE, of each number the highest first: how many there are");
        ProcessDesk x = new ProcessDesk();
        Check.is("none", 0, () -> x.told(5));
        for (int i = 1; i <= 20; i++) {
            int due = 20 * i;
            Check.is("feed " + i, due, () -> x.feed(0, LEAST, MOST, -1, 1));
        }
        String text = "dept first 0 0 0;product 100 1 0;store first;";
        String[] orders = {"0123", "3210", "1032"};
        for (String order : orders) {
            ProcessDesk y = new ProcessDesk();
            StringBuilder mixed = new StringBuilder();
            for (int i = 0; i < 60; i++) {
                int at = i / 4 * 4 + order.charAt(i % 4) - '0';
                mixed.append(at < text.length() ? text.charAt(at) : ' ');
            }
            Check.feedAll(y, mixed.toString());
            Check.same("bytes in the order " + order, order.equals("0123"), y.text(45) == 1);
        }
        ProcessDesk z = new ProcessDesk();
        z.feed(0x20202020, 0x202020ff, 0, 0, 0);
        Check.is("a byte above 127", -9, () -> z.text(8));
        Check.is("its place", 7, z::fault);
    }

    private static void feedBeyond() {
        Check.sentence("NONE, doing nothing, if there would be more than 400");
        ProcessDesk x = new ProcessDesk();
        String text = "dept first 0 0 0;product 100 1 0;";
        Check.feedAll(x, text + " ".repeat(400 - text.length()));
        Check.is("full", 400, () -> x.told(5));
        Check.is("beyond", -1, () -> x.feed(1, 2, 3, 4, 5));
        Check.is("again", -1, () -> x.feed(0x78787878, 0x78787878, 0x78787878, 0x78787878, 0x78787878));
        Check.is("still full", 400, () -> x.told(5));
        Check.same("none is refused", 0, x.status(0) + x.status(1) + x.status(2));
        Check.is("what was fed is as it was", 1, () -> x.text(400));
        Check.is("empty again", 20, () -> x.feed(0, 0, 0, 0, 0));
    }

    private static void textBytes() {
        Check.sentence("The first n bytes of the TAPE (empty then) tell all anew (nothing in work, no STORE, no MONTH "
                + "CLOSED): how many DEPARTMENTS");
        ProcessDesk x = busy();
        Check.is("one department", 1, () -> x.text(33));
        anew("dept first 0 0 0;product 100 1 0;");
        anew("dept average 100 0 0;mat 0 1;mat 0 2;dept first 0 0 0;mat 1 3;product 20 1 1;product 80 0 0;");
        anew("dept first 50 9 9;dept first 50 9 9;dept first 50 9 9;product 50 1 0 by;product 50 1 0;store first;");
        Check.is("none was closed", -1, () -> x.other(0));
        Check.refused("the second is gone", Check.NO_SUCH, () -> x.work(1, 0));
        Check.refused("so is the second product", Check.NO_SUCH, () -> x.store(1, 0));
        ProcessDesk z = new ProcessDesk();
        Check.is("five departments", 5,
                () -> Check.tell(z, "dept first 0 0 0;".repeat(5) + "product 100 1 0;"));
    }

    /** Behind a text a desk tells what a new one with that text does; the acts that can be taken back are more. */
    private static void anew(String text) {
        ProcessDesk x = lossy();
        ProcessDesk y = new ProcessDesk();
        int departments = Check.tell(y, text);
        Check.is("text", departments, () -> Check.tell(x, text));
        List<Long> got = State.of(x);
        Check.same("acts", 8L, got.set(6, 1L));
        Check.same("told anew by " + text, State.of(y), got);
        x.close();
        y.close();
        got = State.of(x);
        got.set(6, 2L);
        Check.same("closed behind " + text, State.of(y), got);
    }

    /** Every number of its latest month, of what is in work and of what is in the store is another than 0. */
    private static ProcessDesk lossy() {
        ProcessDesk x = new ProcessDesk();
        Check.tell(x, "dept average 50 10 2;mat 0 0;mat 0 40;dept average 0 50 7;mat 1 0;mat 1 0;product 50 9 3 by;"
                + "product 50 8 4;store first;");
        for (int month = 0; month < 2; month++) {
            x.start(1000);
            for (int d = 0; d < 2; d++) {
                x.spend(d, 1, 500_000);
                x.spend(d, 2, 600_000);
                x.spend(d, 3, 700_000);
                x.left(d, 40, 50);
                x.lost(d, 200);
            }
            x.close();
        }
        x.sell(0, 1);
        x.sell(1, 2);
        x.start(5);
        for (int d = 0; d < 2; d++) {
            x.lost(d, 1);
            x.left(d, 2, 3);
            for (int kind = 1; kind <= 3; kind++) {
                x.spend(d, kind, 9);
            }
        }
        return x;
    }

    private static void textEmptiesTheTape() {
        Check.sentence("or the FAULT less 10 (all but the TAPE stays)");
        String[] texts = {"x", "dept first 101", "dept first 0 0 0;".repeat(6), ""};
        int[] places = {0, 11, 85, 0};
        for (int reason = 1; reason <= 4; reason++) {
            ProcessDesk x = new ProcessDesk();
            ProcessDesk y = new ProcessDesk();
            x.start(5);
            y.start(5);
            Check.feedAll(x, texts[reason - 1] + " ".repeat(120));
            String text = texts[reason - 1];
            Check.is("text", reason - 10, () -> x.text(text.length()));
            Check.is("the tape", 0, () -> x.told(5));
            Check.is("the place", places[reason - 1], x::fault);
            Check.same("nothing is refused", State.refusals(y), State.refusals(x));
            Check.is("all else, as behind a fault of its own", -6, () -> y.text(0));
            int place = places[reason - 1];
            if (place == 0) {
                Check.same("all else", State.of(y), State.of(x));
            }
            Check.same("what can be taken back", State.backwards(y), State.backwards(x));
        }
    }

    private static void textNotWithinTheTape() {
        Check.sentence("IllegalArgumentException: n is not 0 to the TAPE's bytes (it stays)");
        for (int n : new int[] {-1, 41, 400, 401, LEAST, MOST}) {
            refused("text(" + n + ")", Check.ARGUMENT, x -> x.text(n));
        }
        ProcessDesk x = busy();
        Check.refused("text(41)", Check.ARGUMENT, () -> x.text(41));
        Check.is("it stays", 40, () -> x.told(5));
        Check.is("so does what is on it", 1, () -> x.text(33));
        ProcessDesk y = new ProcessDesk();
        Check.refused("text(1) of an empty tape", Check.ARGUMENT, () -> y.text(1));
        Check.is("text(0) of an empty tape", -6, () -> y.text(0));
        ProcessDesk z = busy();
        Check.is("text(0) of a tape", -6, () -> z.text(0));
        Check.is("it is empty then", 0, () -> z.told(5));
        ProcessDesk v = busy();
        Check.is("text of all its bytes", -9, () -> v.text(40));
        Check.is("the place of a byte 0", 33, v::fault);
    }

    private static void faultOfTheLatest() {
        Check.sentence("The place of the FAULT of the latest text() that threw nothing; NONE without one, and ahead of "
                + "any");
        ProcessDesk x = new ProcessDesk();
        Check.is("ahead of any", -1, x::fault);
        Check.refused("text(1)", Check.ARGUMENT, () -> x.text(1));
        Check.is("behind one that threw", -1, x::fault);
        Check.tell(x, "dept first 101");
        Check.is("behind a fault", 11, x::fault);
        Check.refused("text(-1)", Check.ARGUMENT, () -> x.text(-1));
        Check.is("behind a fault and one that threw", 11, x::fault);
        Check.tell(x, "  x");
        Check.is("behind another", 2, x::fault);
        Check.is("text", 1, () -> Check.tell(x, "dept first 0 0 0;product 100 1 0;"));
        Check.is("without one", -1, x::fault);
        Check.tell(x, "");
        Check.is("at the length of none", 0, x::fault);
    }

    private static void startRange() {
        Check.sentence("So many units more are STARTED (1 to 10,000): how many in all for the MONTH");
        Check.is("the least", 1, () -> new ProcessDesk().start(1));
        Check.is("the most", 10_000, () -> new ProcessDesk().start(10_000));
        for (int units : new int[] {0, -1, 10_001, LEAST, MOST}) {
            refused("start(" + units + ")", Check.ARGUMENT, x -> x.start(units));
        }
        ProcessDesk x = busy();
        Check.is("more", 9_001, () -> x.start(1));
        Check.is("and more", 9_003, () -> x.start(2));
        Check.is("told", 9_003, () -> x.told(3));
    }

    private static void startInAll() {
        Check.sentence("IllegalStateException: that would be more than 10,000");
        Check.is("10,000 in all", 10_000, () -> busy().start(1_000));
        refused("10,001 in all", Check.STATE, x -> x.start(1_001));
        refused("19,000 in all", Check.STATE, x -> x.start(10_000));
    }

    private static void spendRange() {
        Check.sentence("So many cents more are SPENT (1 to 100,000,000): how many in all for the MONTH");
        Check.is("the least", 1, () -> new ProcessDesk().spend(0, 3, 1));
        Check.is("the most", 100_000_000, () -> new ProcessDesk().spend(0, 3, 100_000_000));
        for (int cents : new int[] {0, -1, 100_000_001, LEAST, MOST}) {
            refused("spend(1, 3, " + cents + ")", Check.ARGUMENT, x -> x.spend(1, 3, cents));
        }
        ProcessDesk x = busy();
        Check.is("more", 99_000_001, () -> x.spend(0, 1, 1));
        Check.is("of another kind", 5, () -> x.spend(0, 3, 5));
        Check.is("of another department", 6, () -> x.spend(1, 1, 6));
    }

    private static void spendNoSuch() {
        Check.sentence("NoSuchElementException: no such DEPARTMENT, KIND (1 to 3; 1, 2 without such a MATERIAL), "
                + "PRODUCT, LAYER (so below)");
        noSuch("spend of department", 2, (x, d) -> x.spend(d, 3, 1));
        for (int kind : new int[] {-1, 0, 2, 4, LEAST, MOST}) {
            refused("spend of kind " + kind, Check.NO_SUCH, x -> x.spend(0, kind, 1));
        }
        for (int kind : new int[] {-1, 0, 4}) {
            refused("spend of kind " + kind + " with both materials", Check.NO_SUCH, x -> x.spend(1, kind, 1));
        }
        Check.is("the first of one material", 99_000_001, () -> busy().spend(0, 1, 1));
        Check.is("the second of two", 1, () -> busy().spend(1, 2, 1));
        Check.refusedAlone("without any material", Check.NO_SUCH, ProcessDesk::new, x -> x.spend(0, 1, 1));
    }

    private static void spendInAll() {
        Check.sentence("IllegalStateException: that would be more than 100,000,000");
        Check.is("as many as may be", 100_000_000, () -> busy().spend(0, 1, 1_000_000));
        refused("one more", Check.STATE, x -> x.spend(0, 1, 1_000_001));
        refused("the most again", Check.STATE, x -> x.spend(0, 1, 100_000_000));
    }

    private static void lostRange() {
        Check.sentence("LOST units of the MONTH (0 to 50,000): what was told ahead");
        ProcessDesk x = busy();
        Check.is("none ahead", 0, () -> x.lost(0, 50_000));
        Check.is("the most ahead", 50_000, () -> x.lost(0, 0));
        Check.is("the least ahead", 0, () -> x.lost(0, 1));
        Check.is("of another", 3, () -> x.lost(1, 4));
        Check.is("told", 1, () -> x.department(0, 9));
        for (int units : new int[] {-1, 50_001, LEAST, MOST}) {
            refused("lost(0, " + units + ")", Check.ARGUMENT, y -> y.lost(0, units));
        }
        noSuch("lost of department", 2, (y, d) -> y.lost(d, 1));
    }

    private static void leftRange() {
        Check.sentence("LEFT units of the MONTH (0 to 50,000), how far they are (0 to 100): how many were told ahead");
        ProcessDesk x = busy();
        Check.is("ahead", 7, () -> x.left(0, 50_000, 100));
        Check.is("the most ahead", 50_000, () -> x.left(0, 0, 0));
        Check.is("the least ahead", 0, () -> x.left(0, 6, 1));
        Check.is("of another", 0, () -> x.left(1, 4, 99));
        Check.is("told", 6, () -> x.department(0, 10));
        Check.is("how far", 1, () -> x.department(0, 11));
        for (int units : new int[] {-1, 50_001, LEAST, MOST}) {
            refused("left(0, " + units + ", 50)", Check.ARGUMENT, y -> y.left(0, units, 50));
        }
        for (int far : new int[] {-1, 101, LEAST, MOST}) {
            refused("left(0, 5, " + far + ")", Check.ARGUMENT, y -> y.left(0, 5, far));
            refused("left(0, 0, " + far + ")", Check.ARGUMENT, y -> y.left(0, 0, far));
        }
        noSuch("left of department", 2, (y, d) -> y.left(d, 1, 1));
    }

    private static void sellNoSuch() {
        Check.sentence("`long sell(int product, int units) throws NoSuchElementException, IllegalArgumentException, "
                + "IllegalStateException`");
        noSuch("sell of product", 2, (x, p) -> x.sell(p, 1));
        for (int units : new int[] {0, -1, 50_001, LEAST, MOST}) {
            refused("sell(1, " + units + ")", Check.ARGUMENT, x -> x.sell(1, units));
        }
        long there = busy().store(1, 0);
        refused("one too many", Check.STATE, x -> x.sell(1, (int) there + 1));
        Check.is("all", busy().store(1, 1), () -> busy().sell(1, (int) there));
    }

    private static void toldRange() {
        Check.sentence("0 DEPARTMENTS, 1 PRODUCTS, 2 MONTHS CLOSED, 3 units STARTED for the MONTH, 4 way of the STORE, "
                + "5 bytes of the TAPE, 6 ACTS that can be taken back");
        whats("told", 6, ProcessDesk::told);
        int[] due = {2, 2, 1, 9_000, 0, 40, 8};
        for (int what = 0; what < due.length; what++) {
            int of = what;
            Check.is("told " + what, due[what], () -> busy().told(of));
        }
    }

    private static void departmentRange() {
        Check.sentence("Of a DEPARTMENT: 0 its way, 1 POINT, 2 RATE, 3 SCRAP, 4 MATERIALS");
        whats("department", 11, (x, what) -> x.department(1, what));
        noSuch("department", 2, (x, d) -> x.department(d, 0));
        int[][] due = {{0, 50, 10, 3, 1, 20, -1, -1, -1, 0, 7, 80}, {1, 30, 5, 2, 2, 0, 60, 0, 40, 3, 0, 0}};
        ProcessDesk x = busy();
        for (int d = 0; d < 2; d++) {
            for (int what = 0; what < 12; what++) {
                int at = d;
                int of = what;
                Check.is("department " + d + " " + what, due[d][what], () -> x.department(at, of));
            }
        }
    }

    private static void departmentNone() {
        Check.sentence("5, 6 at how many hundredths these are added (NONE), 7 BACK: the DEPARTMENT, 8 of 100 (both "
                + "NONE)");
        ProcessDesk x = new ProcessDesk();
        for (int what = 5; what <= 8; what++) {
            int of = what;
            Check.is("none of " + what, -1, () -> x.department(0, of));
        }
        ProcessDesk y = busy();
        Check.is("the first of one", 20, () -> y.department(0, 5));
        Check.is("no second of one", -1, () -> y.department(0, 6));
        Check.is("no back", -1, () -> y.department(0, 7));
        Check.is("nor of 100", -1, () -> y.department(0, 8));
        Check.is("back to the first is not none", 0, () -> y.department(1, 7));
        Check.is("a material at 0 is not none", 0, () -> y.department(1, 5));
    }

    private static void productRange() {
        Check.sentence("Of a PRODUCT: 0 of 100, 1 PRICE, 2 COST, 3 1 BY, 0 MAIN");
        whats("product", 3, (x, what) -> x.product(1, what));
        noSuch("product", 2, (x, p) -> x.product(p, 0));
        int[][] due = {{70, 9, 2, 0}, {30, 4, 1, 1}};
        ProcessDesk x = busy();
        for (int p = 0; p < 2; p++) {
            for (int what = 0; what < 4; what++) {
                int at = p;
                int of = what;
                Check.is("product " + p + " " + what, due[p][what], () -> x.product(at, of));
            }
        }
    }

    private static void workRange() {
        Check.sentence("0 units, 1 hundredths, 2 to 5 cents of KINDS 0 to 3");
        whats("work", 5, (x, what) -> x.work(1, what));
        noSuch("work", 2, (x, d) -> x.work(d, 0));
        // 88 of 1000 cents less what was lost come to the second: 20 of these stay at 40
        ProcessDesk x = busy();
        Check.is("units", 20, () -> x.work(1, 0));
        Check.is("hundredths", 40, () -> x.work(1, 1));
        Check.is("cents that came with them", x.cents(1, 0, 2), () -> x.work(1, 2));
        Check.is("nothing in the first", 0, () -> x.work(0, 0));
    }

    private static void unitsRange() {
        Check.sentence("0 OPENING, 1 RECEIVED, 2 FINISHED, 3 LOST, 4 NORMAL, 5 LEFT, 6 COME");
        whats("units", 6, (x, what) -> x.units(1, what));
        noSuch("units", 2, (x, d) -> x.units(d, 0));
        int[][] due = {{0, 100, 88, 12, 10, 0, 100}, {0, 88, 68, 0, 0, 20, 88}};
        ProcessDesk x = busy();
        ProcessDesk y = new ProcessDesk();
        for (int what = 0; what < 7; what++) {
            int of = what;
            Check.is("units 0 " + what, due[0][what], () -> x.units(0, of));
            Check.is("units 1 " + what, due[1][what], () -> x.units(1, of));
            Check.is("ahead of any month " + what, 0, () -> y.units(0, of));
        }
    }

    private static void asDoneRange() {
        Check.sentence("units AS DONE of a KIND (0 to 3; a MATERIAL that there is not: NoSuchElementException): 0 all, "
                + "1 FINISHED, 2 LEFT, 3 LOST");
        whats("asDone", 3, (x, what) -> x.asDone(1, 2, what));
        noSuch("asDone of department", 2, (x, d) -> x.asDone(d, 0, 0));
        kinds("asDone", (x, kind) -> x.asDone(0, kind, 0), (x, kind) -> x.asDone(1, kind, 0));
        ProcessDesk y = new ProcessDesk();
        for (int what = 0; what < 4; what++) {
            int of = what;
            Check.is("ahead of any month " + what, 0, () -> y.asDone(0, 0, of));
            Check.is("ahead of any month, work " + what, 0, () -> y.asDone(0, 3, of));
        }
    }

    private static void kinds(String name, Asked ofFirst, Asked ofSecond) {
        ProcessDesk x = busy();
        for (int kind = 0; kind < 4; kind++) {
            int of = kind;
            boolean there = kind != 2;
            Check.same(name + " of kind " + kind, there,
                    Check.outcome(() -> ofFirst.of(x, of)) instanceof Long);
            Check.same(name + " of kind " + kind + " of two", true,
                    Check.outcome(() -> ofSecond.of(x, of)) instanceof Long);
        }
        for (int kind : new int[] {-1, 2, 4, LEAST, MOST}) {
            refused(name + " of kind " + kind, Check.NO_SUCH, y -> ofFirst.of(y, kind));
        }
        for (int kind : new int[] {-1, 4}) {
            refused(name + " of kind " + kind + " of two", Check.NO_SUCH, y -> ofSecond.of(y, kind));
        }
    }

    private static void centsRange() {
        Check.sentence("Likewise, cents of a KIND: 0 POOL, 1 FINISHED, 2 LEFT (without NET), 3 LOST");
        whats("cents", 3, (x, what) -> x.cents(1, 2, what));
        noSuch("cents of department", 2, (x, d) -> x.cents(d, 0, 0));
        kinds("cents", (x, kind) -> x.cents(0, kind, 0), (x, kind) -> x.cents(1, kind, 0));
        ProcessDesk y = new ProcessDesk();
        for (int what = 0; what < 4; what++) {
            int of = what;
            Check.is("ahead of any month " + what, 0, () -> y.cents(0, 0, of));
            Check.is("ahead of any month, work " + what, 0, () -> y.cents(0, 3, of));
        }
    }

    private static void lossRange() {
        Check.sentence("Likewise: 0 NET, 1 of it to LEFT, 2 ABNORMAL, 3 SCRAP of all LOST, 4 OUT");
        whats("loss", 4, (x, what) -> x.loss(1, what));
        noSuch("loss of department", 2, (x, d) -> x.loss(d, 0));
        // work: 1000 over 8800 and 600, so 63 are lost; 10 of 12 are normal: 52 less 30, the rest is 11 less 6
        long[] due = {22, 0, 5, 36, 937 + 22};
        ProcessDesk x = busy();
        ProcessDesk y = new ProcessDesk();
        for (int what = 0; what < 5; what++) {
            int of = what;
            Check.is("loss " + what, due[what], () -> x.loss(0, of));
            Check.is("ahead of any month " + what, 0, () -> y.loss(0, of));
        }
    }

    private static void otherNoSuch() {
        Check.sentence("`long other(int department) throws NoSuchElementException`");
        noSuch("other", 2, ProcessDesk::other);
        Check.refusedAlone("ahead of any month", Check.NO_SUCH, ProcessDesk::new, x -> x.other(1));
    }

    private static void partedRange() {
        Check.sentence("0 units, 1 WORTH, 2 cents that came into the STORE with it");
        whats("parted", 2, (x, what) -> x.parted(1, what));
        noSuch("parted", 2, (x, p) -> x.parted(p, 0));
    }

    private static void storeRange() {
        Check.sentence("Of a PRODUCT in the STORE: 0 units, 1 cents, 2 LAYERS");
        whats("store", 2, (x, what) -> x.store(1, what));
        noSuch("store", 2, (x, p) -> x.store(p, 0));
        ProcessDesk y = new ProcessDesk();
        for (int what = 0; what < 3; what++) {
            int of = what;
            Check.is("nothing at first " + what, 0, () -> y.store(0, of));
        }
    }

    private static void layerRange() {
        Check.sentence("`long layer(int product, int k, int what) throws NoSuchElementException, "
                + "IllegalArgumentException`");
        whats("layer", 1, (x, what) -> x.layer(1, 0, what));
        noSuch("layer of product", 2, (x, p) -> x.layer(p, 0, 0));
        noSuch("layer", 1, (x, k) -> x.layer(0, k, 0));
        Check.refusedAlone("layer of an empty store", Check.NO_SUCH, ProcessDesk::new, x -> x.layer(0, 0, 0));
    }

    private static void accountRange() {
        Check.sentence("`long account(int what) throws IllegalArgumentException`");
        whats("account", 5, ProcessDesk::account);
        ProcessDesk y = new ProcessDesk();
        for (int what = 0; what < 6; what++) {
            int of = what;
            Check.is("nothing at first " + what, 0, () -> y.account(of));
        }
    }

    private static void planRange() {
        Check.sentence("A PLAN for n units (0 to 10,000): 0 to 4 the FLOW of that DEPARTMENT, 5 what PASSES the last "
                + "one, 6 ROUNDS");
        Check.is("0 units", 0, () -> busy().plan(0, 0));
        Check.same("10,000 units", true, Check.outcome(() -> busy().plan(10_000, 1)) instanceof Long);
        for (int n : new int[] {-1, 10_001, LEAST, MOST}) {
            refused("plan(" + n + ", 0)", Check.ARGUMENT, x -> x.plan(n, 0));
        }
        for (int what : new int[] {-1, 7, LEAST, MOST}) {
            refused("plan(1, " + what + ")", Check.ARGUMENT, x -> x.plan(1, what));
        }
    }

    private static void planNoSuch() {
        Check.sentence("NoSuchElementException: a DEPARTMENT that there is not (behind IllegalArgumentException)");
        for (int d = 2; d < 5; d++) {
            int of = d;
            refused("plan(1, " + d + ")", Check.NO_SUCH, x -> x.plan(1, of));
            refused("plan(-1, " + d + ")", Check.ARGUMENT, x -> x.plan(-1, of));
            refused("plan(10001, " + d + ")", Check.ARGUMENT, x -> x.plan(10_001, of));
        }
        ProcessDesk x = new ProcessDesk();
        Check.tell(x, "dept first 0 0 0;".repeat(5) + "product 100 1 0;");
        Check.is("the fifth", 1_000_000, () -> x.plan(1, 4));
        Check.is("what passes the fifth", 1_000_000, () -> x.plan(1, 5));
    }

    private static void toldFirst() {
        Check.sentence("Of several exceptions of one call the one told first is thrown");
        refused("start: argument ahead of state", Check.ARGUMENT, x -> x.start(10_001));
        refused("spend: department ahead of cents", Check.NO_SUCH, x -> x.spend(2, 3, 0));
        refused("spend: kind ahead of cents", Check.NO_SUCH, x -> x.spend(0, 2, 0));
        refused("spend: cents ahead of the sum", Check.ARGUMENT, x -> x.spend(0, 1, 100_000_001));
        refused("lost", Check.NO_SUCH, x -> x.lost(2, -1));
        refused("left", Check.NO_SUCH, x -> x.left(2, -1, 101));
        refused("sell: product ahead of units", Check.NO_SUCH, x -> x.sell(2, 0));
        refused("sell: units ahead of the store", Check.ARGUMENT, x -> x.sell(0, 50_001));
        refused("department", Check.NO_SUCH, x -> x.department(2, 12));
        refused("product", Check.NO_SUCH, x -> x.product(2, 4));
        refused("work", Check.NO_SUCH, x -> x.work(2, 6));
        refused("units", Check.NO_SUCH, x -> x.units(2, 7));
        refused("asDone: department", Check.NO_SUCH, x -> x.asDone(2, 0, 4));
        refused("asDone: kind", Check.NO_SUCH, x -> x.asDone(0, 2, 4));
        refused("cents: department", Check.NO_SUCH, x -> x.cents(2, 0, 4));
        refused("cents: kind", Check.NO_SUCH, x -> x.cents(0, 2, 4));
        refused("loss", Check.NO_SUCH, x -> x.loss(2, 5));
        refused("parted", Check.NO_SUCH, x -> x.parted(2, 3));
        refused("store", Check.NO_SUCH, x -> x.store(2, 3));
        refused("layer: product", Check.NO_SUCH, x -> x.layer(2, 0, 2));
        refused("layer: layer", Check.NO_SUCH, x -> x.layer(0, 1, 2));
        refused("plan: n ahead of the department", Check.ARGUMENT, x -> x.plan(-1, 2));
        refused("plan: n and what", Check.ARGUMENT, x -> x.plan(-1, 7));
    }

    private static void statusNone() {
        Check.sentence("How many calls were refused: 0 NoSuchElementException, 1 IllegalArgumentException, "
                + "2 IllegalStateException; NONE for others");
        ProcessDesk x = busy();
        for (int what : new int[] {-1, 3, 4, LEAST, MOST}) {
            Check.same("status " + what, -1, x.status(what));
        }
        for (int what = 0; what < 3; what++) {
            Check.same("none is refused " + what, 0, x.status(what));
        }
    }

    private static void statusCounts() {
        Check.sentence("a call that throws changes nothing but status()");
        ProcessDesk x = busy();
        for (int i = 1; i <= 20; i++) {
            Check.refused("no such", Check.NO_SUCH, () -> x.work(5, 0));
            Check.refused("argument", Check.ARGUMENT, () -> x.told(9));
            Check.refused("another argument", Check.ARGUMENT, () -> x.plan(-1, 0));
            Check.refused("state", Check.STATE, () -> x.sell(1, 50_000));
            Check.same("no such", i, x.status(0));
            Check.same("arguments", 2 * i, x.status(1));
            Check.same("states", i, x.status(2));
        }
        x.undo();
        Check.same("undo takes no refusal back", 20, x.status(2));
        x.text(33);
        Check.same("a text takes none back", 40, x.status(1));
        Check.same("status is no refusal", 20, x.status(0));
    }
}
