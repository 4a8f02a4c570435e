/** OUT parted, the STORE, sales, accounts and print (promises 10, 21 to 24, 26, and the STORE's part of 9). */
public final class StoreTest {
    public static void main(String[] args) {
        partedByWorth();
        byProductsAboveOut();
        partedByUnits();
        costWithoutUnits();
        nothingHasUnits();
        byProductHasTheRest();
        firstIn();
        average();
        fortyLayers();
        sellRefused();
        print();
        asked();
        Check.end("StoreTest");
    }

    private static ProcessDesk made(String products, int units, int cents) {
        ProcessDesk x = Check.deskOf("dept average 100 0 0;" + products);
        make(x, units, cents);
        return x;
    }

    private static void make(ProcessDesk x, int units, int cents) {
        x.start(units);
        x.spend(0, 3, cents);
        Check.is("close", cents, x::close);
    }

    private static void parted(ProcessDesk x, int p, long... due) {
        for (int what = 0; what < due.length; what++) {
            int of = what;
            Check.is("parted(" + p + ", " + what + ")", due[what], () -> x.parted(p, of));
        }
    }

    private static void store(ProcessDesk x, int p, long... due) {
        for (int what = 0; what < due.length; what++) {
            int of = what;
            Check.is("store(" + p + ", " + what + ")", due[what], () -> x.store(p, of));
        }
    }

    private static void layer(ProcessDesk x, int k, long units, long cents) {
        Check.is("layer " + k + " units", units, () -> x.layer(0, k, 0));
        Check.is("layer " + k + " cents", cents, () -> x.layer(0, k, 1));
    }

    private static void partedByWorth() {
        ProcessDesk x = made("product 33 0 5 by;product 33 10 3;product 34 5 1;", 10, 100);
        parted(x, 0, 4, 0, 0);
        parted(x, 1, 3, 21, 64);
        parted(x, 2, 3, 12, 36);
        store(x, 0, 4, 0, 1);
        store(x, 1, 3, 64, 1);
        store(x, 2, 3, 36, 1);
        Check.is("in the store", 100, () -> x.account(5));
        x.close();
        parted(x, 1, 0, 0, 0);
        store(x, 1, 3, 64, 1);
    }

    private static void byProductsAboveOut() {
        ProcessDesk x = made("product 50 5 0 by;product 30 4 0 by;product 20 1 0;", 10, 30);
        parted(x, 0, 5, 25, 25);
        parted(x, 1, 3, 12, 5);
        parted(x, 2, 2, 2, 0);
        ProcessDesk y = made("product 50 5 0 by;product 30 4 0 by;product 20 1 0;", 10, 40);
        parted(y, 0, 5, 25, 25);
        parted(y, 1, 3, 12, 12);
        parted(y, 2, 2, 2, 3);
    }

    private static void partedByUnits() {
        ProcessDesk x = made("product 50 1 1;product 50 2 9;", 5, 11);
        parted(x, 0, 3, 0, 7);
        parted(x, 1, 2, 0, 4);
    }

    private static void costWithoutUnits() {
        ProcessDesk x = made("product 99 5 0 by;product 1 3 0;", 10, 70);
        parted(x, 0, 10, 50, 70);
        parted(x, 1, 0, 0, 0);
        store(x, 0, 10, 70, 1);
        store(x, 1, 0, 0, 0);
        Check.refused("no layer", Check.NO_SUCH, () -> x.layer(1, 0, 0));
    }

    private static void nothingHasUnits() {
        ProcessDesk x = Check.deskOf("dept average 100 0 0;dept first 100 0 0;product 50 5 0 by;product 50 3 0;");
        x.spend(1, 3, 40);
        Check.is("out", 40, x::close);
        parted(x, 0, 0, 0, 0);
        parted(x, 1, 0, 0, 0);
        Check.is("of the last department", 40, () -> x.loss(1, 2));
        Check.is("not of the first", 0, () -> x.loss(0, 2));
        Check.is("out, as asked", 40, () -> x.loss(1, 4));
        Check.is("abnormal", 40, () -> x.account(2));
        Check.is("spent", 40, () -> x.account(0));
        Check.is("store", 0, () -> x.account(5));
    }

    private static void byProductHasTheRest() {
        ProcessDesk x = made("product 1 9 0 by;product 99 1 0;", 99, 200);
        parted(x, 0, 1, 9, 9);
        parted(x, 1, 98, 98, 191);
        make(x, 1, 50);
        parted(x, 0, 1, 9, 50);
        parted(x, 1, 0, 0, 0);
    }

    private static void firstIn() {
        ProcessDesk x = made("product 100 1 0;store first;", 10, 105);
        make(x, 20, 400);
        make(x, 5, 7);
        store(x, 0, 35, 512, 3);
        layer(x, 0, 10, 105);
        layer(x, 1, 20, 400);
        layer(x, 2, 5, 7);
        Check.is("some of the oldest", 31, () -> x.sell(0, 3));
        layer(x, 0, 7, 74);
        Check.is("the rest of it, and of the next", 74 + 60, () -> x.sell(0, 10));
        store(x, 0, 22, 347, 2);
        layer(x, 0, 17, 340);
        Check.is("one whole", 340, () -> x.sell(0, 17));
        store(x, 0, 5, 7, 1);
        layer(x, 0, 5, 7);
        Check.refused("no second", Check.NO_SUCH, () -> x.layer(0, 1, 0));
        Check.is("all", 7, () -> x.sell(0, 5));
        store(x, 0, 0, 0, 0);
        Check.is("sold", 512, () -> x.account(1));
        Check.is("in the store", 0, () -> x.account(5));
    }

    private static void average() {
        ProcessDesk x = made("product 100 1 0;", 10, 105);
        make(x, 20, 400);
        store(x, 0, 30, 505, 1);
        layer(x, 0, 30, 505);
        Check.refused("the layers are one", Check.NO_SUCH, () -> x.layer(0, 1, 0));
        Check.is("some", 117, () -> x.sell(0, 7));
        layer(x, 0, 23, 388);
        make(x, 2, 1);
        layer(x, 0, 25, 389);
        Check.is("all", 389, () -> x.sell(0, 25));
        store(x, 0, 0, 0, 0);
        Check.refused("no layer", Check.NO_SUCH, () -> x.layer(0, 0, 0));
        Check.is("sold", 506, () -> x.account(1));
    }

    private static void fortyLayers() {
        ProcessDesk x = Check.deskOf("dept average 100 0 0;product 99 1 0 by;product 1 1 0;store first;");
        for (int i = 1; i <= 40; i++) {
            make(x, 1, i);
        }
        store(x, 0, 40, 820, 40);
        x.start(1);
        x.spend(0, 3, 41);
        Check.refused("a layer too many", Check.STATE, x::close);
        store(x, 0, 40, 820, 40);
        Check.is("months", 40, () -> x.told(2));
        Check.is("still started", 1, () -> x.told(3));
        Check.is("the latest month", 40, () -> x.parted(0, 2));
        Check.is("the oldest", 1, () -> x.sell(0, 1));
        Check.is("now", 41, x::close);
        store(x, 0, 40, 860, 40);
        Check.is("a month without units", 0, x::close);
        Check.is("all", 860, () -> x.sell(0, 40));
        ProcessDesk y = new ProcessDesk();
        for (int i = 1; i <= 45; i++) {
            make(y, 1, i);
        }
        store(y, 0, 45, 45 * 46 / 2, 1);
    }

    private static void sellRefused() {
        ProcessDesk x = made("product 50 1 0;product 50 1 0;store first;", 4, 8);
        Check.refused("no product", Check.NO_SUCH, () -> x.sell(2, 0));
        Check.refused("no product below", Check.NO_SUCH, () -> x.sell(-1, 1));
        Check.refused("0 units", Check.ARGUMENT, () -> x.sell(0, 0));
        Check.refused("50001 units", Check.ARGUMENT, () -> x.sell(0, 50_001));
        Check.refused("50000 units", Check.STATE, () -> x.sell(0, 50_000));
        Check.refused("not so many", Check.STATE, () -> x.sell(1, 3));
        Check.is("so many", 4, () -> x.sell(1, 2));
        Check.refused("none", Check.STATE, () -> x.sell(1, 1));
        Check.is("of the other", 2, () -> x.sell(0, 1));
        Check.is("sold", 6, () -> x.account(1));
    }

    private static void print() {
        ProcessDesk x = Check.deskOf("dept first 100 0 0;dept average 50 0 0;product 50 1 0;product 50 1 0;");
        x.start(20);
        x.spend(0, 3, 300);
        x.left(0, 10, 50);
        x.left(1, 4, 0);
        x.close();
        // in work 10 of 100 and 4 of 80, in the store 3 of 60 twice
        long due = 0;
        for (long each : new long[] {10, 100, 4, 80, 3, 60, 3, 60}) {
            due = due * 31 + each;
        }
        Check.is("print", due, x::print);
    }

    private static void asked() {
        ProcessDesk x = new ProcessDesk();
        Check.refused("parted(1, 9)", Check.NO_SUCH, () -> x.parted(1, 9));
        Check.refused("parted(0, 3)", Check.ARGUMENT, () -> x.parted(0, 3));
        Check.refused("parted(0, -1)", Check.ARGUMENT, () -> x.parted(0, -1));
        Check.refused("store(-1, 9)", Check.NO_SUCH, () -> x.store(-1, 9));
        Check.refused("store(0, 3)", Check.ARGUMENT, () -> x.store(0, 3));
        Check.refused("store(0, -1)", Check.ARGUMENT, () -> x.store(0, -1));
        Check.refused("layer(1, 0, 0)", Check.NO_SUCH, () -> x.layer(1, 0, 0));
        Check.refused("layer(0, 0, 9)", Check.NO_SUCH, () -> x.layer(0, 0, 9));
        x.start(1);
        x.close();
        Check.refused("layer(0, -1, 0)", Check.NO_SUCH, () -> x.layer(0, -1, 0));
        Check.refused("layer(0, 0, 2)", Check.ARGUMENT, () -> x.layer(0, 0, 2));
        Check.refused("layer(0, 0, -1)", Check.ARGUMENT, () -> x.layer(0, 0, -1));
        Check.is("layer(0, 0, 0)", 1, () -> x.layer(0, 0, 0));
        Check.is("layer(0, 0, 1)", 0, () -> x.layer(0, 0, 1));
    }
}
