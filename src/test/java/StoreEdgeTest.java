import java.math.BigInteger;

/** The edges of parting OUT, of the STORE and of what is SOLD, a sentence of the document each. */
public final class StoreEdgeTest {
    private static final String D = "dept average 100 0 0;";
    private static final String ONE = "product 100 1 0;";

    public static void main(String[] args) {
        unitsCut();
        restToTheFirst();
        worthNotBelowNothing();
        outLessWorthOfBy();
        byWorthCut();
        noWorth();
        byAtMostOut();
        layerForEachWithUnits();
        withoutUnits();
        withoutAny();
        partedAheadOfAny();
        soldFirstIn();
        soldPartCut();
        soldAverage();
        averageIsOneLayer();
        soldRange();
        soldTooMany();
        fortyLayers();
        fortyLayersOfOneProduct();
        averageHasNoLimit();
        layersAsked();
        multipliedWraps();
        printWraps();
        Check.end("StoreEdgeTest");
    }

    private static ProcessDesk made(String products, int units, int cents) {
        ProcessDesk x = Check.deskOf(D + products);
        make(x, units, cents);
        return x;
    }

    private static void make(ProcessDesk x, int units, int cents) {
        x.start(units);
        if (cents > 0) {
            x.spend(0, 3, cents);
        }
        Check.is("close", cents, x::close);
    }

    private static void parted(ProcessDesk x, int p, long... due) {
        for (int what = 0; what < due.length; what++) {
            int of = what;
            Check.is("parted(" + p + ", " + what + ")", due[what], () -> x.parted(p, of));
        }
    }

    private static void store(ProcessDesk x, int p, long... due) {
        for (int what = 0; what < due.length; what++) {
            int of = what;
            Check.is("store(" + p + ", " + what + ")", due[what], () -> x.store(p, of));
        }
    }

    private static void layer(ProcessDesk x, int p, int k, long units, long cents) {
        Check.is("layer " + k + " units", units, () -> x.layer(p, k, 0));
        Check.is("layer " + k + " cents", cents, () -> x.layer(p, k, 1));
    }

    private static void unitsCut() {
        Check.sentence("units of each PRODUCT: its share of FINISHED by 100, cut, the rest to the first PRODUCT");
        int[] finished = {1, 2, 3, 4, 99, 100, 101, 10_000};
        int[] second = {0, 0, 0, 1, 32, 33, 33, 3_300};
        int[] third = {0, 0, 1, 1, 33, 34, 34, 3_400};
        for (int i = 0; i < finished.length; i++) {
            ProcessDesk x = made("product 33 1 0;product 33 1 0;product 34 1 0;", finished[i], 0);
            parted(x, 0, finished[i] - second[i] - third[i]);
            parted(x, 1, second[i]);
            parted(x, 2, third[i]);
        }
    }

    private static void restToTheFirst() {
        Check.sentence("cut, the rest to the first PRODUCT");
        ProcessDesk x = made("product 1 5 0 by;product 99 1 0;", 1, 7);
        parted(x, 0, 1, 5, 7);
        parted(x, 1, 0, 0, 0);
        ProcessDesk y = made("product 1 1 0;product 33 1 0;product 33 1 0;product 33 1 0;", 3, 0);
        parted(y, 0, 3);
        parted(y, 3, 0);
    }

    private static void worthNotBelowNothing() {
        Check.sentence("WORTH: units times PRICE less COST (0 at least a unit)");
        int[] price = {5, 5, 5, 0, 9_999, 0};
        int[] cost = {4, 5, 6, 9_999, 0, 0};
        long[] due = {10, 0, 0, 0, 99_990, 0};
        for (int i = 0; i < price.length; i++) {
            ProcessDesk x = made("product 100 " + price[i] + " " + cost[i] + ";", 10, 3);
            parted(x, 0, 10, due[i], 3);
        }
    }

    private static void outLessWorthOfBy() {
        Check.sentence("OUT less the WORTH of BY ones (0 at least) is parted among MAIN ones by WORTH");
        long[] main = {0, 0, 1};
        for (int i = 0; i < 3; i++) {
            int out = 49 + i;
            ProcessDesk x = made("product 50 1 0;product 50 10 0 by;", 10, out);
            parted(x, 0, 5, 5, main[i]);
            parted(x, 1, 5, 50, out - main[i]);
        }
        ProcessDesk y = made("product 50 1 0;product 50 10 0 by;", 10, 0);
        parted(y, 0, 5, 5, 0);
        parted(y, 1, 5, 50, 0);
    }

    private static void byWorthCut() {
        Check.sentence("the rest to the first MAIN one");
        ProcessDesk x = made("product 25 1 0 by;product 25 1 0;product 25 1 0;product 25 1 0;", 4, 12);
        // 11 among three: 3 each, and 2 are the rest
        parted(x, 0, 1, 1, 1);
        parted(x, 1, 1, 1, 5);
        parted(x, 2, 1, 1, 3);
        parted(x, 3, 1, 1, 3);
        ProcessDesk y = made("product 50 1 9;product 50 1 0;", 2, 7);
        // the first has no worth, yet there is no rest
        parted(y, 0, 1, 0, 0);
        parted(y, 1, 1, 1, 7);
    }

    private static void noWorth() {
        Check.sentence("(cut; by units, if all their WORTH is 0)");
        ProcessDesk x = made("product 30 1 1;product 30 0 9;product 40 5 0 by;", 10, 50);
        // the by-product has 20, so 30 go by 3 and 3 units
        parted(x, 0, 3, 0, 15);
        parted(x, 1, 3, 0, 15);
        parted(x, 2, 4, 20, 20);
        ProcessDesk y = made("product 60 0 0;product 40 0 0;", 10, 9);
        parted(y, 0, 6, 0, 6);
        parted(y, 1, 4, 0, 3);
        ProcessDesk z = made("product 60 0 0;product 40 1 0;", 10, 9);
        parted(z, 0, 6, 0, 0);
        parted(z, 1, 4, 4, 9);
    }

    private static void byAtMostOut() {
        Check.sentence("of BY ones the cost is their WORTH, but together no more than OUT (each in order as much as is "
                + "left)");
        String products = "product 25 4 0 by;product 25 1 0;product 25 3 0 by;product 25 2 0 by;";
        int[] out = {10, 40, 41, 69, 70, 71, 89, 90, 91};
        long[] first = {10, 40, 40, 40, 40, 40, 40, 40, 40};
        long[] second = {0, 0, 1, 29, 30, 30, 30, 30, 30};
        long[] third = {0, 0, 0, 0, 0, 1, 19, 20, 20};
        for (int i = 0; i < out.length; i++) {
            ProcessDesk x = made(products, 40, out[i]);
            parted(x, 0, 10, 40, first[i]);
            parted(x, 2, 10, 30, second[i]);
            parted(x, 3, 10, 20, third[i]);
            parted(x, 1, 10, 10, out[i] - first[i] - second[i] - third[i]);
        }
    }

    private static void layerForEachWithUnits() {
        Check.sentence("All come into the STORE: a LAYER for each PRODUCT with units");
        ProcessDesk x = made("product 50 1 0;product 50 1 0;store first;", 2, 0);
        store(x, 0, 1, 0, 1);
        store(x, 1, 1, 0, 1);
        make(x, 1, 9);
        store(x, 0, 2, 9, 2);
        store(x, 1, 1, 0, 1);
        x.close();
        store(x, 0, 2, 9, 2);
    }

    private static void withoutUnits() {
        Check.sentence("without units its cost goes to the first PRODUCT in order that has units");
        ProcessDesk x = made("product 98 2 0 by;product 1 3 0;product 1 3 0;store first;", 10, 70);
        parted(x, 0, 10, 20, 70);
        parted(x, 1, 0, 0, 0);
        parted(x, 2, 0, 0, 0);
        store(x, 0, 10, 70, 1);
        store(x, 1, 0, 0, 0);
        store(x, 2, 0, 0, 0);
        ProcessDesk y = made("product 49 2 0 by;product 1 3 0;product 50 2 0 by;", 10, 70);
        parted(y, 0, 5, 10, 60);
        parted(y, 1, 0, 0, 0);
        parted(y, 2, 5, 10, 10);
    }

    private static void withoutAny() {
        Check.sentence("without any to ABNORMAL of the last DEPARTMENT");
        ProcessDesk x = Check.deskOf(D + D + "product 50 1 0 by;product 50 1 0;store first;");
        x.spend(0, 3, 30);
        x.spend(1, 3, 12);
        Check.is("out", 42, x::close);
        Check.is("of the last", 42, () -> x.loss(1, 2));
        Check.is("not of the first", 0, () -> x.loss(0, 2));
        Check.is("out stays", 42, () -> x.loss(1, 4));
        Check.is("so far", 42, () -> x.account(2));
        store(x, 0, 0, 0, 0);
        store(x, 1, 0, 0, 0);
        parted(x, 0, 0, 0, 0);
        parted(x, 1, 0, 0, 0);
    }

    private static void partedAheadOfAny() {
        Check.sentence("Of a PRODUCT in the latest MONTH: 0 units, 1 WORTH, 2 cents that came into the STORE with it");
        ProcessDesk x = Check.deskOf(D + "product 50 1 0;product 50 1 0;");
        parted(x, 0, 0, 0, 0);
        parted(x, 1, 0, 0, 0);
        make(x, 4, 10);
        parted(x, 0, 2, 2, 5);
        x.sell(0, 1);
        parted(x, 0, 2, 2, 5);
        x.close();
        parted(x, 0, 0, 0, 0);
    }

    private static ProcessDesk twoLayers() {
        ProcessDesk x = made(ONE + "store first;", 3, 10);
        make(x, 4, 21);
        return x;
    }

    private static void soldFirstIn() {
        Check.sentence("FIRST-IN: the oldest LAYERS first");
        long[] due = {0, 3, 6, 10, 15, 20, 25, 31};
        for (int units = 1; units <= 7; units++) {
            ProcessDesk x = twoLayers();
            int of = units;
            Check.is("sell " + units, due[units], () -> x.sell(0, of));
            store(x, 0, 7 - units, 31 - due[units], units < 3 ? 2 : units < 7 ? 1 : 0);
            Check.is("sold", due[units], () -> x.account(1));
        }
        ProcessDesk y = twoLayers();
        y.sell(0, 3);
        y.sell(0, 2);
        Check.is("sold so far", 20, () -> y.account(1));
    }

    private static void soldPartCut() {
        Check.sentence("(of one that is not sold whole: its cents times units sold by its units, cut)");
        ProcessDesk x = twoLayers();
        Check.is("one of 3 of 10", 3, () -> x.sell(0, 1));
        layer(x, 0, 0, 2, 7);
        Check.is("one of 2 of 7", 3, () -> x.sell(0, 1));
        layer(x, 0, 0, 1, 4);
        Check.is("the last of 4, and 3 of 4 of 21", 4 + 15, () -> x.sell(0, 4));
        layer(x, 0, 0, 1, 6);
        Check.is("whole", 6, () -> x.sell(0, 1));
        store(x, 0, 0, 0, 0);
    }

    private static void soldAverage() {
        Check.sentence("AVERAGE: all cents times units sold by all units, cut");
        long[] due = {0, 4, 8, 13, 17, 22, 26, 31};
        for (int units = 1; units <= 7; units++) {
            ProcessDesk x = made(ONE, 3, 10);
            make(x, 4, 21);
            int of = units;
            Check.is("sell " + units, due[units], () -> x.sell(0, of));
            store(x, 0, 7 - units, 31 - due[units], units < 7 ? 1 : 0);
        }
    }

    private static void averageIsOneLayer() {
        Check.sentence("(the LAYERS are one: its units, cents)");
        ProcessDesk x = made(ONE, 3, 10);
        layer(x, 0, 0, 3, 10);
        make(x, 4, 21);
        layer(x, 0, 0, 7, 31);
        store(x, 0, 7, 31, 1);
        Check.refused("no second", Check.NO_SUCH, () -> x.layer(0, 1, 0));
        x.sell(0, 7);
        store(x, 0, 0, 0, 0);
        Check.refused("none", Check.NO_SUCH, () -> x.layer(0, 0, 0));
        make(x, 2, 5);
        layer(x, 0, 0, 2, 5);
    }

    private static ProcessDesk sixtyThousand(String way) {
        ProcessDesk x = Check.deskOf(D + ONE + "store " + way + ";");
        for (int i = 0; i < 6; i++) {
            make(x, 10_000, 10_000);
        }
        return x;
    }

    private static void soldRange() {
        Check.sentence("So many units of a PRODUCT are SOLD (1 to 50,000): their cents");
        for (String way : new String[] {"first", "average"}) {
            ProcessDesk x = sixtyThousand(way);
            Check.is("one", 1, () -> x.sell(0, 1));
            Check.is("the most", 50_000, () -> x.sell(0, 50_000));
            store(x, 0, 9_999, 9_999);
            Check.refusedAlone("one too many, though there are so many", Check.ARGUMENT, () -> sixtyThousand(way),
                    y -> y.sell(0, 50_001));
            Check.refusedAlone("none", Check.ARGUMENT, () -> sixtyThousand(way), y -> y.sell(0, 0));
            Check.refusedAlone("less than none", Check.ARGUMENT, () -> sixtyThousand(way), y -> y.sell(0, -1));
        }
    }

    private static void soldTooMany() {
        Check.sentence("IllegalStateException: there are not so many");
        Check.refusedAlone("one too many", Check.STATE, StoreEdgeTest::twoLayers, y -> y.sell(0, 8));
        Check.refusedAlone("far too many", Check.STATE, StoreEdgeTest::twoLayers, y -> y.sell(0, 50_000));
        Check.refusedAlone("of an empty store", Check.STATE, ProcessDesk::new, y -> y.sell(0, 1));
        Check.refusedAlone("of an average", Check.STATE, () -> made(ONE, 3, 10), y -> y.sell(0, 4));
        Check.refusedAlone("of another product", Check.STATE, () -> made("product 50 1 0;product 50 1 0;", 3, 10),
                y -> y.sell(1, 2));
        Check.is("all", 31, () -> twoLayers().sell(0, 7));
    }

    private static ProcessDesk full(int layers) {
        ProcessDesk x = Check.deskOf(D + ONE + "store first;");
        for (int i = 1; i <= layers; i++) {
            make(x, 1, i);
        }
        x.start(1);
        x.spend(0, 3, layers + 1);
        return x;
    }

    private static void fortyLayers() {
        Check.sentence("or the STORE would have more than 40 LAYERS of a PRODUCT (by FIRST-IN)");
        ProcessDesk x = full(39);
        Check.is("the fortieth", 40, x::close);
        store(x, 0, 40, 820, 40);
        layer(x, 0, 0, 1, 1);
        layer(x, 0, 39, 1, 40);
        Check.refusedAlone("one more", Check.STATE, () -> full(40), ProcessDesk::close);
        ProcessDesk y = full(40);
        y.sell(0, 1);
        Check.is("in the place of the one that was sold", 41, y::close);
        layer(y, 0, 0, 1, 2);
        layer(y, 0, 39, 1, 41);
        y.start(1);
        y.lost(0, 1);
        y.spend(0, 3, 5);
        Check.is("a month that finishes none needs no layer", 0, y::close);
        Check.is("all", 860, () -> y.sell(0, 40));
    }

    private static ProcessDesk secondFull() {
        ProcessDesk x = Check.deskOf(D + "product 50 1 0;product 50 1 0;store first;");
        for (int i = 1; i <= 40; i++) {
            make(x, 2, 2 * i);
            if (i % 2 == 0) {
                x.sell(0, 2);
            }
        }
        make(x, 1, 9);
        x.start(2);
        return x;
    }

    private static void fortyLayersOfOneProduct() {
        Check.sentence("more than 40 LAYERS of a PRODUCT (by FIRST-IN)");
        ProcessDesk x = secondFull();
        store(x, 0, 1, 9, 1);
        store(x, 1, 40, 820, 40);
        Check.refusedAlone("the second is full", Check.STATE, StoreEdgeTest::secondFull, ProcessDesk::close);
        x.sell(1, 1);
        Check.is("it is no more", 0, x::close);
        store(x, 0, 2, 9, 2);
        store(x, 1, 40, 819, 40);
    }

    private static void averageHasNoLimit() {
        Check.sentence("LAYERS of a PRODUCT (by FIRST-IN)");
        ProcessDesk x = Check.deskOf(D + ONE);
        for (int i = 1; i <= 42; i++) {
            make(x, 1, i);
        }
        store(x, 0, 42, 42 * 43 / 2, 1);
    }

    private static void layersAsked() {
        Check.sentence("Of its k-th LAYER, the oldest first: 0 units, 1 cents");
        ProcessDesk x = twoLayers();
        layer(x, 0, 0, 3, 10);
        layer(x, 0, 1, 4, 21);
        for (int k : new int[] {-1, 2, 40, Integer.MIN_VALUE, Integer.MAX_VALUE}) {
            Check.refusedAlone("layer " + k, Check.NO_SUCH, StoreEdgeTest::twoLayers, y -> y.layer(0, k, 0));
        }
    }

    /** So many units and cents that OUT times WORTH needs more than 64 bits. */
    private static void multipliedWraps() {
        Check.sentence("Cents are of 64 bits; what is multiplied wraps");
        String dept = "dept average 100 0 0;";
        ProcessDesk x = Check.deskOf(dept + dept + dept + dept + dept + "product 1 9999 0;product 99 9999 0;");
        for (int filled = 4; filled >= 0; filled--) {
            for (int i = 1; i <= 5; i++) {
                x.start(10_000);
                for (int d = filled + 1; d < 5; d++) {
                    x.left(d, 50_000, 100);
                }
                x.left(filled, 10_000 * i, 100);
                x.spend(4, 3, 100_000_000);
                x.spend(0, 3, 100_000_000);
                x.close();
            }
        }
        x.start(10_000);
        long out = x.close();
        Check.same("out", 5_000_000_000L, out);
        long first = 2_600L * 9_999;
        long second = 257_400L * 9_999;
        BigInteger exact = BigInteger.valueOf(out).multiply(BigInteger.valueOf(second));
        Check.same("more than 64 bits", true, exact.bitLength() > 63);
        long part = exact.longValue() / (first + second);
        parted(x, 1, 257_400, second, part);
        parted(x, 0, 2_600, first, out - part);
        Check.is("together they are out", out, () -> x.account(5));
    }

    private static void printWraps() {
        Check.sentence("of PRODUCT by PRODUCT 31 times, and units, 31 times, and cents in the STORE");
        String dept = "dept average 100 0 0;";
        ProcessDesk x = Check.deskOf(dept + dept + dept + dept + dept
                + "product 25 4 0;product 25 3 0;product 25 2 0;product 25 1 0;store first;");
        x.start(10_000);
        x.spend(0, 3, 100_000_000);
        for (int d = 0; d < 5; d++) {
            x.left(d, 1000 + d, 50 + d);
        }
        x.close();
        BigInteger due = BigInteger.ZERO;
        BigInteger times = BigInteger.valueOf(31);
        for (int d = 0; d < 5; d++) {
            long cents = x.work(d, 2) + x.work(d, 3) + x.work(d, 4) + x.work(d, 5);
            due = due.multiply(times).add(BigInteger.valueOf(x.work(d, 0)));
            due = due.multiply(times).add(BigInteger.valueOf(cents));
        }
        for (int p = 0; p < 4; p++) {
            due = due.multiply(times).add(BigInteger.valueOf(x.store(p, 0)));
            due = due.multiply(times).add(BigInteger.valueOf(x.store(p, 1)));
        }
        Check.same("more than 64 bits", true, due.bitLength() > 64);
        Check.is("print", due.longValue(), x::print);
    }
}
