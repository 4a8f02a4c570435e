/** The TAPE, TEXTS, their FAULTS, and what is told (promises 1 to 4, 12 to 14). */
public final class TextTest {
    private static final String D = "dept first 0 0 0;";
    private static final String P = "product 100 1 0;";

    public static void main(String[] args) {
        newObject();
        tape();
        bytesOfNumbers();
        textTakesTheTape();
        soundTexts();
        toldOfTexts();
        endsTooEarly();
        cutOffTexts();
        cannotStand();
        numbersThatAreNoneSuch();
        tooMany();
        notWhole();
        leastFaultFirst();
        faultKeepsAll();
        anew();
        wrongAsked();
        Check.end("TextTest");
    }

    private static void newObject() {
        ProcessDesk x = new ProcessDesk();
        int[] told = {1, 1, 0, 0, 1, 0, 0};
        for (int what = 0; what < told.length; what++) {
            int of = what;
            Check.is("new: told " + what, told[what], () -> x.told(of));
        }
        int[] department = {1, 100, 0, 0, 0, -1, -1, -1, -1, 0, 0, 0};
        for (int what = 0; what < department.length; what++) {
            int of = what;
            Check.is("new: department " + what, department[what], () -> x.department(0, of));
        }
        int[] product = {100, 100, 0, 0};
        for (int what = 0; what < product.length; what++) {
            int of = what;
            Check.is("new: product " + what, product[what], () -> x.product(0, of));
        }
        for (int what = 0; what < 6; what++) {
            int of = what;
            Check.is("new: work " + what, 0, () -> x.work(0, of));
            Check.is("new: account " + what, 0, () -> x.account(of));
        }
        Check.is("new: fault", -1, x::fault);
        Check.is("new: print", 0, x::print);
        Check.is("new: undo", -1, x::undo);
        for (int what = 0; what < 3; what++) {
            Check.same("new: status " + what, 0, x.status(what));
        }
    }

    private static void tape() {
        ProcessDesk x = new ProcessDesk();
        for (int i = 1; i <= 20; i++) {
            int due = 20 * i;
            Check.is("feed " + i, due, () -> x.feed(0, 0, 0, 0, 0));
            Check.is("told(5) " + i, due, () -> x.told(5));
        }
        Check.is("feed beyond 400", -1, () -> x.feed(1, 2, 3, 4, 5));
        Check.is("told(5) beyond 400", 400, () -> x.told(5));
        Check.refused("text(401)", Check.ARGUMENT, () -> x.text(401));
        Check.is("the tape stays", 400, () -> x.told(5));
        Check.is("text(400) of zeros", -9, () -> x.text(400));
        Check.is("the tape is empty", 0, () -> x.told(5));
    }

    private static void bytesOfNumbers() {
        ProcessDesk x = new ProcessDesk();
        x.feed(0x64657074, 0x20666972, 0x73742030, 0x20302030, 0x3b70726f);
        x.feed(0x64756374, 0x20313030, 0x20392030, 0x3bffffff, -1);
        Check.is("bytes, the highest first", 1, () -> x.text(33));
        Check.is("the price", 9, () -> x.product(0, 1));
    }

    private static void textTakesTheTape() {
        ProcessDesk x = new ProcessDesk();
        Check.feedAll(x, D + P);
        Check.refused("text(-1)", Check.ARGUMENT, () -> x.text(-1));
        Check.refused("text(41)", Check.ARGUMENT, () -> x.text(41));
        Check.is("it stays", 40, () -> x.told(5));
        Check.is("no fault of calls that threw", -1, x::fault);
        Check.is("text of its first bytes alone", -6, () -> x.text(17));
        Check.is("the tape is empty", 0, () -> x.told(5));
        Check.is("the place", 17, x::fault);
        Check.refused("text(1) of an empty tape", Check.ARGUMENT, () -> x.text(1));
        Check.is("the place of the latest that threw nothing", 17, x::fault);
        Check.is("text", 1, () -> Check.tell(x, D + P));
        Check.is("no place", -1, x::fault);
    }

    private static void sound(String text, int departments) {
        ProcessDesk x = new ProcessDesk();
        Check.is("text '" + text + "'", departments, () -> Check.tell(x, text));
        Check.is("no fault of '" + text + "'", -1, x::fault);
    }

    private static void faulty(String text, int reason, int place) {
        ProcessDesk x = new ProcessDesk();
        Check.is("text '" + text + "'", reason - 10, () -> Check.tell(x, text));
        Check.is("place in '" + text + "'", place, x::fault);
    }

    /** What stands on the tape behind the text is none of it. */
    private static void cutOff(String fed, int n, int reason, int place) {
        ProcessDesk x = new ProcessDesk();
        Check.feedAll(x, fed);
        Check.is("text(" + n + ") of '" + fed + "'", reason - 10, () -> x.text(n));
        Check.is("place in " + n + " of '" + fed + "'", place, x::fault);
    }

    private static void cutOffTexts() {
        cutOff("deptx", 4, 1, 4);
        cutOff("dept  ", 4, 1, 4);
        cutOff("dept first 1001", 14, 1, 14);
        cutOff("dept first 0 0 0;", 16, 1, 16);
        cutOff(D + "product 100 1 0;", 32, 1, 32);
        cutOff(D + P, 17, 4, 17);
    }

    private static void soundTexts() {
        sound(D + P, 1);
        sound(P + D, 1);
        sound("  dept   first 0  0 0  ;  product 100 1 0  ;   ", 1);
        sound("dept average100 50 999back 0 90;product100 9999 9999;store average;", 1);
        sound("dept first0 0 0;product 99 0 0;product 1 0 0by;", 1);
        sound("dept first 000000000000000000000100 00 000;product 0100 00001 0;", 1);
        sound(D + D + D + D + D + P, 5);
        sound(D + D + "mat 0 0;mat 1 100;mat 1 0;mat 0 50;" + P + "store first;", 2);
        sound(D + "product 25 0 0;product 25 0 0 by;product 25 0 0;product 25 0 0;", 1);
    }

    private static void toldOfTexts() {
        ProcessDesk x = Check.deskOf("dept average 7 8 9;mat 0 33;dept first 1 2 3 back 1 4;mat 1 5;mat 1 6;"
                + "product 60 70 80;product 40 50 60 by;store first;");
        int[][] departments = {{1, 7, 8, 9, 1, 33, -1, -1, -1, 0, 0, 0}, {0, 1, 2, 3, 2, 5, 6, 1, 4, 0, 0, 0}};
        for (int d = 0; d < 2; d++) {
            for (int what = 0; what < 12; what++) {
                int at = d;
                int of = what;
                Check.is("department " + d + " " + what, departments[d][what], () -> x.department(at, of));
            }
        }
        int[][] products = {{60, 70, 80, 0}, {40, 50, 60, 1}};
        for (int p = 0; p < 2; p++) {
            for (int what = 0; what < 4; what++) {
                int at = p;
                int of = what;
                Check.is("product " + p + " " + what, products[p][what], () -> x.product(at, of));
            }
        }
        int[] told = {2, 2, 0, 0, 0, 0, 1};
        for (int what = 0; what < told.length; what++) {
            int of = what;
            Check.is("told " + what, told[what], () -> x.told(of));
        }
    }

    private static void endsTooEarly() {
        faulty("dept", 1, 4);
        faulty("dept   ", 1, 7);
        faulty("dept first", 1, 10);
        faulty("dept first 0 0 ", 1, 15);
        faulty("dept first 0 0 0", 1, 16);
        faulty("dept first 0 0 0 back", 1, 21);
        faulty("dept first 0 0 0 back 0", 1, 23);
        faulty("dept first 0 0 0 back 0 5 ", 1, 26);
        faulty("mat", 1, 3);
        faulty(D + "mat 0", 1, 22);
        faulty("product 100 1", 1, 13);
        faulty("product 100 1 0 by", 1, 18);
        faulty("store", 1, 5);
        faulty("store first", 1, 11);
    }

    private static void cannotStand() {
        faulty("x", 1, 0);
        faulty(";", 1, 0);
        faulty(" 5", 1, 1);
        faulty("Dept first 0 0 0;", 1, 0);
        faulty("dep", 1, 0);
        faulty("xept first 0 0 0;", 1, 0);
        faulty("dept firstz 0 0 0;", 1, 5);
        faulty("dept firsta 0 0 0;", 1, 5);
        faulty("deptfirst 0 0 0;", 1, 0);
        faulty("dept firs 0 0 0;", 1, 5);
        faulty("dept 0 0 0;", 1, 5);
        faulty("dept first -1 0 0;", 1, 11);
        faulty("dept first 5a 0 0;", 1, 12);
        faulty("dept first 0 0;", 1, 14);
        faulty("dept first 0 0 0 0;", 1, 17);
        faulty("dept first 0 0 0 bac 0 5;", 1, 17);
        faulty("dept first 0 0 0 by;", 1, 17);
        faulty("dept first 0 0 0 back 0 5 back 0 5;", 1, 26);
        faulty(D + ";", 1, 17);
        faulty(D + "mat first;", 1, 21);
        faulty("product 100 1 0 back;", 1, 16);
        faulty("product 100 1 0 by by;", 1, 19);
        faulty("store first 0;", 1, 12);
        faulty("store second;", 1, 6);
        faulty("store first;" + D + "store first;", 1, 29);
        faulty("dept\tfirst 0 0 0;", 1, 4);
        faulty(D + P + (char) 0, 1, 33);
        faulty(D + P + (char) 160, 1, 33);
        faulty("dept first 0 0 0 " + (char) 225 + ";", 1, 17);
    }

    private static void numbersThatAreNoneSuch() {
        faulty("dept first 101 0 0;", 2, 11);
        faulty("dept first 0 51 0;", 2, 13);
        faulty("dept first 0 0 1000;", 2, 15);
        faulty("dept first 0 0 4294967296;", 2, 15);
        faulty("dept first 18446744073709551616 0 0;", 2, 11);
        faulty("dept first 0 0 0 back 1 5;", 2, 22);
        faulty(D + "dept first 0 0 0 back 2 5;", 2, 39);
        faulty("dept first 0 0 0 back 0 0;", 2, 24);
        faulty("dept first 0 0 0 back 0 91;", 2, 24);
        faulty("mat 0 5;", 2, 4);
        faulty(D + "mat 1 5;", 2, 21);
        faulty(D + "mat 0 101;", 2, 23);
        faulty("product 0 1 0;", 2, 8);
        faulty("product 101 1 0;", 2, 8);
        faulty("product 100 10000 0;", 2, 12);
        faulty("product 100 0 10000;", 2, 14);
    }

    private static void tooMany() {
        faulty(D + D + D + D + D + D + P, 3, 85);
        faulty(D + D + D + D + D + " dept", 3, 86);
        faulty("product 1 0 0;product 1 0 0;product 1 0 0;product 1 0 0;product 96 0 0;" + D, 3, 56);
        faulty(D + "mat 0 1;mat 0 2;mat 0 3;" + P, 3, 33);
        faulty(D + "mat 0 1;mat 0 2; mat 0x", 3, 34);
        faulty(D + "mat 0 1;mat 0 2;mat 0", 3, 33);
        faulty(D + "mat 0 1;mat 0 2;mat 1 0;", 2, 37);
        faulty(D + "mat 0 1;mat 0 2;mat ;", 1, 37);
    }

    private static void notWhole() {
        faulty("", 4, 0);
        faulty("   ", 4, 3);
        faulty(P, 4, 16);
        faulty(D, 4, 17);
        faulty(D + "product 99 1 0; ", 4, 33);
        faulty(D + "product 99 1 0;product 2 1 0;", 4, 46);
        faulty(D + "product 100 1 0 by;", 4, 36);
    }

    private static void leastFaultFirst() {
        faulty("dept first 101 x", 2, 11);
        faulty("dept first x 101", 1, 11);
        faulty(D + D + D + D + D + "dept x", 3, 85);
        faulty("product 101 1 0;x", 2, 8);
    }

    private static void faultKeepsAll() {
        ProcessDesk x = Check.deskOf("dept average 7 8 9;dept first 1 2 3;product 100 5 0;store first;");
        x.start(10);
        x.spend(0, 3, 50);
        x.left(0, 4, 50);
        x.close();
        x.start(3);
        x.lost(1, 1);
        long print = x.print();
        Check.is("fault", -8, () -> Check.tell(x, "dept average 0 0 0;store average;product 101 0 0;"));
        Check.is("departments stay", 2, () -> x.told(0));
        Check.is("months stay", 1, () -> x.told(2));
        Check.is("started stays", 3, () -> x.told(3));
        Check.is("the store's way stays", 0, () -> x.told(4));
        Check.is("acts stay", 7, () -> x.told(6));
        Check.is("lost stays", 1, () -> x.department(1, 9));
        Check.is("the point stays", 7, () -> x.department(0, 1));
        Check.is("print stays", print, x::print);
        Check.is("units stay", 4, () -> x.units(0, 5));
    }

    private static void anew() {
        ProcessDesk x = Check.deskOf("dept average 50 10 2;mat 0 0;mat 0 40;dept average 0 50 7;product 50 5 3 by;"
                + "product 50 6 4;store first;");
        x.start(100);
        x.spend(0, 1, 500);
        x.spend(0, 3, 700);
        x.left(0, 40, 50);
        x.lost(0, 2);
        x.close();
        x.start(50);
        x.spend(0, 1, 500);
        x.spend(0, 3, 700);
        x.left(0, 20, 50);
        x.lost(0, 9);
        x.lost(1, 5);
        x.close();
        x.sell(0, 1);
        x.start(3);
        x.lost(0, 1);
        x.left(0, 1, 9);
        x.spend(0, 3, 7);
        Check.is("anew", 1, () -> Check.tell(x, "dept average 100 0 0;mat 0 0;product 100 1 0;"));
        asNew(x);
        int[] told = {1, 1, 0, 0, 1, 0, 8};
        for (int what = 0; what < told.length; what++) {
            int of = what;
            Check.is("anew: told " + what, told[what], () -> x.told(of));
        }
        Check.is("anew: materials", 1, () -> x.department(0, 4));
        Check.is("anew: no second", -1, () -> x.department(0, 6));
        Check.is("anew: lost", 0, () -> x.department(0, 9));
        Check.is("anew: left", 0, () -> x.department(0, 10));
        Check.is("anew: how far", 0, () -> x.department(0, 11));
        Check.is("anew: main", 0, () -> x.product(0, 3));
        Check.is("anew: other", -1, () -> x.other(0));
        Check.is("anew: nothing is spent", 5, () -> x.spend(0, 3, 5));
    }

    private static void asNew(ProcessDesk x) {
        for (int what = 0; what < 7; what++) {
            int of = what;
            Check.is("anew: units " + what, 0, () -> x.units(0, of));
            Check.is("anew: work " + what, 0, () -> x.work(0, of % 6));
            Check.is("anew: account " + what, 0, () -> x.account(of % 6));
            Check.is("anew: loss " + what, 0, () -> x.loss(0, of % 5));
            Check.is("anew: parted " + what, 0, () -> x.parted(0, of % 3));
            Check.is("anew: store " + what, 0, () -> x.store(0, of % 3));
        }
        for (int what = 0; what < 16; what++) {
            int kind = what / 4;
            int of = what % 4;
            if (kind != 2) {
                Check.is("anew: asDone " + what, 0, () -> x.asDone(0, kind, of));
                Check.is("anew: cents " + what, 0, () -> x.cents(0, kind, of));
            }
        }
    }

    private static void wrongAsked() {
        ProcessDesk x = new ProcessDesk();
        Check.refused("told(-1)", Check.ARGUMENT, () -> x.told(-1));
        Check.refused("told(7)", Check.ARGUMENT, () -> x.told(7));
        Check.refused("department(-1, 0)", Check.NO_SUCH, () -> x.department(-1, 0));
        Check.refused("department(1, 99)", Check.NO_SUCH, () -> x.department(1, 99));
        Check.refused("department(0, -1)", Check.ARGUMENT, () -> x.department(0, -1));
        Check.refused("department(0, 12)", Check.ARGUMENT, () -> x.department(0, 12));
        Check.refused("product(-1, 0)", Check.NO_SUCH, () -> x.product(-1, 0));
        Check.refused("product(1, 99)", Check.NO_SUCH, () -> x.product(1, 99));
        Check.refused("product(0, -1)", Check.ARGUMENT, () -> x.product(0, -1));
        Check.refused("product(0, 4)", Check.ARGUMENT, () -> x.product(0, 4));
    }
}
