/** A MONTH by hand, CLOSED, and what is asked of it (promises 5 to 9, 15 to 20, and the accounts of 24). */
public final class MonthTest {
    public static void main(String[] args) {
        start();
        spend();
        lost();
        left();
        firstIn();
        average();
        departmentsInARow();
        fewerThanNothingCome();
        openedAtThePoint();
        allLost();
        lostWithLeftAheadOfThePoint();
        lostWithLeftAtThePoint();
        scrapAboveCost();
        materialsAtThePoint();
        noUnitsAsDone();
        leftOfNoUnits();
        closeRefused();
        largest();
        asked();
        Check.end("MonthTest");
    }

    private static void start() {
        ProcessDesk x = new ProcessDesk();
        Check.refused("start(0)", Check.ARGUMENT, () -> x.start(0));
        Check.refused("start(-1)", Check.ARGUMENT, () -> x.start(-1));
        Check.refused("start(10001)", Check.ARGUMENT, () -> x.start(10001));
        Check.is("start(1)", 1, () -> x.start(1));
        Check.is("start(9998)", 9999, () -> x.start(9998));
        Check.refused("start(2)", Check.STATE, () -> x.start(2));
        Check.refused("start(10001), told first", Check.ARGUMENT, () -> x.start(10001));
        Check.is("told(3)", 9999, () -> x.told(3));
        Check.is("start(1) again", 10000, () -> x.start(1));
        Check.refused("start(1) beyond", Check.STATE, () -> x.start(1));
    }

    private static void spend() {
        ProcessDesk x = Check.deskOf("dept first 0 0 0;dept first 0 0 0;mat 1 5;product 100 0 0;");
        Check.refused("no department", Check.NO_SUCH, () -> x.spend(2, 3, 0));
        Check.refused("no department below", Check.NO_SUCH, () -> x.spend(-1, 3, 5));
        Check.refused("kind 0", Check.NO_SUCH, () -> x.spend(0, 0, 0));
        Check.refused("kind -1", Check.NO_SUCH, () -> x.spend(0, -1, 5));
        Check.refused("kind 4", Check.NO_SUCH, () -> x.spend(0, 4, 5));
        Check.refused("no material", Check.NO_SUCH, () -> x.spend(0, 1, 5));
        Check.refused("no second material", Check.NO_SUCH, () -> x.spend(1, 2, 5));
        Check.refused("0 cents", Check.ARGUMENT, () -> x.spend(0, 3, 0));
        Check.refused("too many cents", Check.ARGUMENT, () -> x.spend(0, 3, 100_000_001));
        Check.is("work", 99_999_999, () -> x.spend(0, 3, 99_999_999));
        Check.refused("beyond", Check.STATE, () -> x.spend(0, 3, 2));
        Check.is("to the edge", 100_000_000, () -> x.spend(0, 3, 1));
        Check.refused("beyond the edge", Check.STATE, () -> x.spend(0, 3, 100_000_000));
        Check.is("another kind", 7, () -> x.spend(1, 1, 7));
        Check.is("another department", 8, () -> x.spend(1, 3, 8));
        Check.is("more of it", 10, () -> x.spend(1, 1, 3));
        Check.is("nothing of a month that is not closed", 0, () -> x.account(0));
    }

    private static void lost() {
        ProcessDesk x = new ProcessDesk();
        Check.refused("no department", Check.NO_SUCH, () -> x.lost(1, -1));
        Check.refused("below", Check.ARGUMENT, () -> x.lost(0, -1));
        Check.refused("above", Check.ARGUMENT, () -> x.lost(0, 50_001));
        Check.is("first", 0, () -> x.lost(0, 50_000));
        Check.is("next", 50_000, () -> x.lost(0, 3));
        Check.is("and none", 3, () -> x.lost(0, 0));
        Check.is("told", 0, () -> x.department(0, 9));
    }

    private static void left() {
        ProcessDesk x = new ProcessDesk();
        Check.refused("no department", Check.NO_SUCH, () -> x.left(1, -1, -1));
        Check.refused("below", Check.ARGUMENT, () -> x.left(0, -1, 0));
        Check.refused("above", Check.ARGUMENT, () -> x.left(0, 50_001, 0));
        Check.refused("far below", Check.ARGUMENT, () -> x.left(0, 5, -1));
        Check.refused("far above", Check.ARGUMENT, () -> x.left(0, 5, 101));
        Check.is("first", 0, () -> x.left(0, 50_000, 100));
        Check.is("next", 50_000, () -> x.left(0, 4, 0));
        Check.is("units", 4, () -> x.department(0, 10));
        Check.is("how far", 0, () -> x.department(0, 11));
    }

    private static void units(ProcessDesk x, int d, int... due) {
        for (int what = 0; what < due.length; what++) {
            int of = what;
            Check.is("units(" + d + ", " + what + ")", due[what], () -> x.units(d, of));
        }
    }

    private static void done(ProcessDesk x, int d, int kind, int... due) {
        for (int what = 0; what < due.length; what++) {
            int of = what;
            Check.is("asDone(" + d + ", " + kind + ", " + what + ")", due[what], () -> x.asDone(d, kind, of));
        }
    }

    private static void cents(ProcessDesk x, int d, int kind, long... due) {
        for (int what = 0; what < due.length; what++) {
            int of = what;
            Check.is("cents(" + d + ", " + kind + ", " + what + ")", due[what], () -> x.cents(d, kind, of));
        }
    }

    private static void loss(ProcessDesk x, int d, long... due) {
        for (int what = 0; what < due.length; what++) {
            int of = what;
            Check.is("loss(" + d + ", " + what + ")", due[what], () -> x.loss(d, of));
        }
    }

    private static void work(ProcessDesk x, int d, long... due) {
        for (int what = 0; what < due.length; what++) {
            int of = what;
            Check.is("work(" + d + ", " + what + ")", due[what], () -> x.work(d, of));
        }
    }

    private static void account(ProcessDesk x, long... due) {
        for (int what = 0; what < due.length; what++) {
            int of = what;
            Check.is("account(" + what + ")", due[what], () -> x.account(of));
        }
    }

    private static void firstMonth(ProcessDesk x) {
        x.start(100);
        x.spend(0, 1, 1000);
        x.spend(0, 2, 300);
        x.spend(0, 3, 900);
        x.left(0, 20, 60);
        x.lost(0, 10);
        Check.is("close", 1754, x::close);
        units(x, 0, 0, 100, 70, 10, 10, 20, 100);
        done(x, 0, 0, 10000, 7000, 2000, 1000);
        done(x, 0, 1, 10000, 7000, 2000, 1000);
        done(x, 0, 2, 9000, 7000, 2000, 0);
        done(x, 0, 3, 8700, 7000, 1200, 500);
        cents(x, 0, 0, 0, 0, 0, 0);
        cents(x, 0, 1, 1000, 700, 200, 100);
        cents(x, 0, 2, 300, 234, 66, 0);
        cents(x, 0, 3, 900, 725, 124, 51);
        loss(x, 0, 121, 26, 0, 30, 1754);
        work(x, 0, 20, 60, 0, 200, 66, 150);
        Check.is("nothing opened, so the other way is no other", 1754, () -> x.other(0));
        Check.is("nothing is started", 0, () -> x.told(3));
        Check.is("nothing is lost", 0, () -> x.department(0, 9));
        Check.is("nothing is left", 0, () -> x.department(0, 10));
        Check.is("nor far", 0, () -> x.department(0, 11));
    }

    private static void secondMonth(ProcessDesk x) {
        Check.is("nothing is spent yet", 30, () -> x.spend(0, 1, 30));
        x.spend(0, 1, 300);
        x.spend(0, 3, 700);
        x.start(30);
        x.left(0, 10, 40);
        x.lost(0, 5);
    }

    private static void firstIn() {
        ProcessDesk x = Check.deskOf("dept first 50 10 3;mat 0 0;mat 0 60;product 100 50 0;store first;");
        firstMonth(x);
        secondMonth(x);
        Check.is("close", 1167, x::close);
        units(x, 0, 20, 30, 35, 5, 2, 10, 20);
        done(x, 0, 0, 3000, 1500, 1000, 500);
        done(x, 0, 1, 3000, 1500, 1000, 500);
        done(x, 0, 2, 1500, 1500, 0, 0);
        done(x, 0, 3, 2950, 2300, 400, 250);
        cents(x, 0, 1, 330, 365, 110, 55);
        cents(x, 0, 2, 0, 66, 0, 0);
        cents(x, 0, 3, 700, 697, 94, 59);
        loss(x, 0, 39, 0, 60, 15, 1167);
        work(x, 0, 10, 40, 0, 110, 0, 94);
        Check.is("as an average", 1190, () -> x.other(0));
        Check.is("asked again", 1190, () -> x.other(0));
        Check.is("as it was", 1167, () -> x.loss(0, 4));
        account(x, 3230, 0, 60, 45, 204, 2921);
    }

    private static void average() {
        ProcessDesk x = Check.deskOf("dept average 50 10 3;mat 0 0;mat 0 60;product 100 50 0;");
        firstMonth(x);
        secondMonth(x);
        Check.is("close", 1190, x::close);
        units(x, 0, 20, 30, 35, 5, 2, 10, 20);
        done(x, 0, 1, 5000, 3500, 1000, 500);
        done(x, 0, 2, 3500, 3500, 0, 0);
        done(x, 0, 3, 4150, 3500, 400, 250);
        cents(x, 0, 1, 530, 371, 106, 53);
        cents(x, 0, 2, 66, 66, 0, 0);
        cents(x, 0, 3, 850, 718, 81, 51);
        loss(x, 0, 35, 0, 54, 15, 1190);
        work(x, 0, 10, 40, 0, 106, 0, 81);
        Check.is("first-in", 1167, () -> x.other(0));
        account(x, 3230, 0, 54, 45, 187, 2944);
    }

    private static void departmentsInARow() {
        ProcessDesk x = Check.deskOf("dept first 100 0 0;dept average 0 0 5;mat 1 100;product 100 9 0;");
        x.start(50);
        x.spend(0, 3, 1000);
        x.spend(1, 1, 70);
        x.spend(1, 3, 300);
        x.left(1, 20, 50);
        x.lost(1, 2);
        // kind 0: 1000 over 2800 + 2000 + 200; material: 2800 alone; work: 2800 + 1000 + 0
        Check.is("close", 560 + 70 + 222, x::close);
        units(x, 0, 0, 50, 50, 0, 0, 0, 50);
        units(x, 1, 0, 50, 28, 2, 0, 20, 50);
        cents(x, 1, 0, 1000, 560, 400, 40);
        cents(x, 1, 1, 70, 70, 0, 0);
        cents(x, 1, 3, 300, 222, 78, 0);
        loss(x, 0, 0, 0, 0, 0, 1000);
        loss(x, 1, 0, 0, 30, 10, 852);
        work(x, 1, 20, 50, 400, 0, 0, 78);
        account(x, 1370, 0, 30, 10, 478, 852);
        Check.is("the next", 400 + 78, x::close);
        units(x, 1, 20, 0, 20, 0, 0, 0, 0);
        cents(x, 1, 0, 400, 400, 0, 0);
        Check.is("first-in", 478, () -> x.other(1));
    }

    private static void fewerThanNothingCome() {
        ProcessDesk x = Check.deskOf("dept average 50 50 0;product 100 1 0;");
        x.start(100);
        x.spend(0, 3, 100);
        x.left(0, 100, 80);
        Check.is("nothing is finished", 0, x::close);
        x.left(0, 40, 20);
        x.lost(0, 10);
        Check.is("close", 81, x::close);
        units(x, 0, 100, 0, 50, 10, 0, 40, -40);
        cents(x, 0, 3, 100, 81, 12, 7);
        loss(x, 0, 0, 0, 7, 0, 81);
        Check.is("that could not be", -1, () -> x.other(0));
    }

    private static void openedAtThePoint() {
        ProcessDesk x = Check.deskOf("dept average 50 50 0;product 100 1 0;");
        x.start(20);
        x.left(0, 20, 50);
        x.close();
        x.start(10);
        x.lost(0, 6);
        x.close();
        units(x, 0, 20, 10, 24, 6, 5, 0, 10);
        x.start(20);
        x.left(0, 20, 49);
        x.close();
        x.start(10);
        x.lost(0, 6);
        x.close();
        units(x, 0, 20, 10, 24, 6, 6, 0, 30);
    }

    private static void allLost() {
        ProcessDesk x = Check.deskOf("dept average 100 50 2;product 100 1 0;");
        x.start(10);
        x.spend(0, 3, 100);
        x.lost(0, 10);
        Check.is("close", 0, x::close);
        units(x, 0, 0, 10, 0, 10, 5, 0, 10);
        loss(x, 0, 40, 0, 80, 20, 0);
        account(x, 100, 0, 80, 20, 0, 0);
    }

    private static void lostWithLeftAheadOfThePoint() {
        ProcessDesk x = Check.deskOf("dept average 100 50 2;product 100 1 0;");
        x.start(20);
        x.spend(0, 3, 150);
        x.lost(0, 10);
        x.left(0, 10, 50);
        Check.is("close", 0, x::close);
        loss(x, 0, 40, 0, 80, 20, 0);
        work(x, 0, 10, 50, 0, 0, 0, 50);
    }

    private static void lostWithLeftAtThePoint() {
        ProcessDesk x = Check.deskOf("dept average 50 50 2;product 100 1 0;");
        x.start(20);
        x.spend(0, 3, 100);
        x.lost(0, 10);
        x.left(0, 10, 50);
        Check.is("close", 0, x::close);
        units(x, 0, 0, 20, 0, 10, 10, 10, 20);
        loss(x, 0, 30, 30, 0, 20, 0);
        cents(x, 0, 3, 100, 0, 50, 50);
        work(x, 0, 10, 50, 0, 0, 0, 80);
    }

    private static void scrapAboveCost() {
        ProcessDesk x = Check.deskOf("dept average 100 10 999;product 100 1 0;");
        x.start(100);
        x.spend(0, 3, 100);
        x.lost(0, 20);
        Check.is("close", 80, x::close);
        loss(x, 0, 0, 0, 10 - 9990, 19980, 80);
        account(x, 100, 0, -9980, 19980, 0, 80);
    }

    private static void materialsAtThePoint() {
        ProcessDesk x = Check.deskOf("dept average 50 0 0;mat 0 50;mat 0 51;product 100 1 0;");
        x.start(10);
        x.left(0, 3, 51);
        x.lost(0, 2);
        x.close();
        done(x, 0, 1, 1000, 500, 300, 200);
        done(x, 0, 2, 800, 500, 300, 0);
        done(x, 0, 3, 500 + 153 + 100, 500, 153, 100);
    }

    private static void noUnitsAsDone() {
        ProcessDesk x = Check.deskOf("dept average 0 0 0;dept average 0 0 0;product 100 1 0;");
        x.start(4);
        x.left(0, 4, 0);
        x.spend(0, 3, 9);
        Check.is("to the finished, though there are none", 9, x::close);
        done(x, 0, 3, 0, 0, 0, 0);
        cents(x, 0, 3, 9, 9, 0, 0);
        cents(x, 1, 0, 9, 9, 0, 0);
        loss(x, 0, 0, 0, 0, 0, 9);
        loss(x, 1, 0, 0, 9, 0, 9);
        work(x, 0, 4, 0, 0, 0, 0, 0);
    }

    private static void leftOfNoUnits() {
        ProcessDesk x = new ProcessDesk();
        x.left(0, 0, 70);
        Check.is("as told", 70, () -> x.department(0, 11));
        x.close();
        work(x, 0, 0, 0, 0, 0, 0, 0);
    }

    private static void closeRefused() {
        ProcessDesk x = Check.deskOf("dept average 0 0 0;dept first 0 0 0;product 100 1 0;");
        x.start(10);
        x.spend(1, 3, 100);
        x.left(1, 5, 50);
        x.close();
        x.start(3);
        x.lost(0, 4);
        long print = x.print();
        Check.refused("below 0", Check.STATE, x::close);
        x.lost(0, 0);
        x.left(1, 4, 50);
        Check.refused("fewer than opened, first-in", Check.STATE, x::close);
        Check.is("nothing is changed", print, x::print);
        units(x, 0, 0, 10, 10, 0, 0, 0, 10);
        units(x, 1, 0, 10, 5, 0, 0, 5, 10);
        Check.is("months", 1, () -> x.told(2));
        Check.is("started", 3, () -> x.told(3));
        Check.is("left for the month", 4, () -> x.department(1, 10));
        Check.same("status", 2, x.status(2));
        x.left(1, 3, 50);
        // what was opened had 100 * 250 / 750 cents
        Check.is("as many as opened", 33, x::close);
    }

    private static void largest() {
        ProcessDesk x = Check.deskOf("dept average 100 50 999;product 100 9999 0;");
        for (int i = 0; i < 5; i++) {
            x.start(10_000);
            x.spend(0, 3, 100_000_000);
            x.left(0, 10_000 * (i + 1), 100);
            Check.is("nothing is finished", 0, x::close);
        }
        work(x, 0, 50_000, 100, 0, 0, 0, 500_000_000L);
        x.spend(0, 3, 100_000_000);
        x.start(10_000);
        Check.is("all", 600_000_000L, x::close);
        done(x, 0, 3, 6_000_000, 6_000_000, 0, 0);
        Check.is("worth", 599_940_000L, () -> x.parted(0, 1));
        Check.is("cents", 600_000_000L, () -> x.parted(0, 2));
    }

    private static void asked() {
        ProcessDesk x = Check.deskOf("dept first 0 0 0;mat 0 5;product 100 0 0;");
        Check.refused("work(1, 9)", Check.NO_SUCH, () -> x.work(1, 9));
        Check.refused("work(0, -1)", Check.ARGUMENT, () -> x.work(0, -1));
        Check.refused("work(0, 6)", Check.ARGUMENT, () -> x.work(0, 6));
        Check.refused("units(-1, 9)", Check.NO_SUCH, () -> x.units(-1, 9));
        Check.refused("units(0, -1)", Check.ARGUMENT, () -> x.units(0, -1));
        Check.refused("units(0, 7)", Check.ARGUMENT, () -> x.units(0, 7));
        Check.refused("asDone(1, 0, 0)", Check.NO_SUCH, () -> x.asDone(1, 0, 0));
        Check.refused("asDone(0, -1, 0)", Check.NO_SUCH, () -> x.asDone(0, -1, 0));
        Check.refused("asDone(0, 2, 9)", Check.NO_SUCH, () -> x.asDone(0, 2, 9));
        Check.refused("asDone(0, 4, 0)", Check.NO_SUCH, () -> x.asDone(0, 4, 0));
        Check.refused("asDone(0, 1, 4)", Check.ARGUMENT, () -> x.asDone(0, 1, 4));
        Check.refused("asDone(0, 3, -1)", Check.ARGUMENT, () -> x.asDone(0, 3, -1));
        Check.refused("cents(1, 0, 0)", Check.NO_SUCH, () -> x.cents(1, 0, 0));
        Check.refused("cents(0, 2, 9)", Check.NO_SUCH, () -> x.cents(0, 2, 9));
        Check.refused("cents(0, 4, 0)", Check.NO_SUCH, () -> x.cents(0, 4, 0));
        Check.refused("cents(0, 0, 4)", Check.ARGUMENT, () -> x.cents(0, 0, 4));
        Check.refused("loss(1, 0)", Check.NO_SUCH, () -> x.loss(1, 0));
        Check.refused("loss(0, 5)", Check.ARGUMENT, () -> x.loss(0, 5));
        Check.refused("loss(0, -1)", Check.ARGUMENT, () -> x.loss(0, -1));
        Check.refused("other(1)", Check.NO_SUCH, () -> x.other(1));
        Check.refused("other(-1)", Check.NO_SUCH, () -> x.other(-1));
        Check.is("other of no month", -1, () -> x.other(0));
        for (int what = 0; what < 7; what++) {
            int of = what;
            Check.is("units ahead of any " + what, 0, () -> x.units(0, of));
            Check.is("asDone ahead of any " + what, 0, () -> x.asDone(0, of % 2, of % 4));
            Check.is("cents ahead of any " + what, 0, () -> x.cents(0, of % 2, of % 4));
            Check.is("loss ahead of any " + what, 0, () -> x.loss(0, of % 5));
        }
        Check.refused("account(-1)", Check.ARGUMENT, () -> x.account(-1));
        Check.refused("account(6)", Check.ARGUMENT, () -> x.account(6));
    }
}
