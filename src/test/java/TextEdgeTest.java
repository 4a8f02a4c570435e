import java.math.BigInteger;

/** The edges of what a TEXT may tell, a sentence of the document each. */
public final class TextEdgeTest {
    private static final String D = "dept first 0 0 0;";
    private static final String P = "product 100 1 0;";
    private static final int BYTES = 400;

    public static void main(String[] args) {
        departmentsAtMost();
        ways();
        points();
        rates();
        scraps();
        backs();
        backNotBehind();
        materialsAtMost();
        materialHundredths();
        productsAtMost();
        shares();
        prices();
        mainOrBy();
        storeNotTold();
        bytesAtMost();
        noLine();
        linesInAnyOrder();
        departmentToldAhead();
        storeOnce();
        digitsAsMany();
        lettersAsMany();
        blanks();
        leastByteFirst();
        oneByteFirstInList();
        endsTooEarly();
        secondStore();
        numbersNoneSuch();
        departmentsNotTold();
        tooMany();
        thirdMaterialByItsWord();
        noneOfTheseFirst();
        notWhole();
        Check.end("TextEdgeTest");
    }

    private static ProcessDesk sound(String text, int departments) {
        ProcessDesk x = new ProcessDesk();
        Check.is("text '" + text + "'", departments, () -> Check.tell(x, text));
        Check.is("place in '" + text + "'", -1, x::fault);
        return x;
    }

    private static void faulty(String text, int reason, int place) {
        ProcessDesk x = new ProcessDesk();
        Check.is("text '" + text + "'", reason - 10, () -> Check.tell(x, text));
        Check.is("place in '" + text + "'", place, x::fault);
        Check.is("no act of '" + text + "'", 0, () -> x.told(6));
    }

    private static String many(String line, int times) {
        return line.repeat(times);
    }

    /** Only least to most may stand between the two parts; others wrap to these in 32 or 64 bits. */
    private static void numbers(String ahead, int least, int most, String behind) {
        ProcessDesk x = new ProcessDesk();
        Check.same(ahead + least + behind, true, Check.tell(x, ahead + least + behind) > 0);
        Check.same(ahead + most + behind, true, Check.tell(x, ahead + most + behind) > 0);
        if (least > 0) {
            faulty(ahead + (least - 1) + behind, 2, ahead.length());
        }
        faulty(ahead + (most + 1) + behind, 2, ahead.length());
        faulty(ahead + (most + 1) + "x", 2, ahead.length());
        faulty(ahead + (most + 1) + behind + "x", 2, ahead.length());
        for (int bits : new int[] {8, 16, 31, 32, 63, 64, 128}) {
            BigInteger wrapping = BigInteger.ONE.shiftLeft(bits).add(BigInteger.valueOf(most));
            if (wrapping.compareTo(BigInteger.valueOf(most + 9_999)) > 0) {
                faulty(ahead + wrapping + behind, 2, ahead.length());
            }
        }
    }

    private static void departmentsAtMost() {
        Check.sentence("DEPARTMENTS (5 at most, numbered from 0 on as they are told)");
        ProcessDesk x = sound("dept first 1 0 0;dept first 2 0 0;dept first 3 0 0;dept first 4 0 0;"
                + "dept first 5 0 0;" + P, 5);
        for (int d = 0; d < 5; d++) {
            int at = d;
            Check.is("the point of " + d, d + 1, () -> x.department(at, 1));
        }
        Check.is("five", 5, () -> x.told(0));
        Check.refused("there is no sixth", Check.NO_SUCH, () -> x.department(5, 1));
        Check.refused("nor one ahead of the first", Check.NO_SUCH, () -> x.department(-1, 1));
        faulty(many(D, 6) + P, 3, 85);
        ProcessDesk y = sound(D + P, 1);
        Check.is("one", 0, () -> y.department(0, 1));
        Check.refused("there is no second", Check.NO_SUCH, () -> y.department(1, 1));
    }

    private static void ways() {
        Check.sentence("FIRST-IN (way 0) or AVERAGE (1)");
        ProcessDesk x = sound("dept first 0 0 0;dept average 0 0 0;" + P, 2);
        Check.is("first-in", 0, () -> x.department(0, 0));
        Check.is("average", 1, () -> x.department(1, 0));
    }

    private static void points() {
        Check.sentence("POINT (0 to 100 hundredths of its work)");
        numbers("dept first ", 0, 100, " 0 0;" + P);
        Check.is("0", 0, () -> sound("dept first 0 0 0;" + P, 1).department(0, 1));
        Check.is("100", 100, () -> sound("dept first 100 0 0;" + P, 1).department(0, 1));
    }

    private static void rates() {
        Check.sentence("so many are NORMAL LOSSES (0 to 50)");
        numbers("dept first 0 ", 0, 50, " 0;" + P);
        Check.is("0", 0, () -> sound("dept first 7 0 8;" + P, 1).department(0, 2));
        Check.is("50", 50, () -> sound("dept first 7 50 8;" + P, 1).department(0, 2));
    }

    private static void scraps() {
        Check.sentence("SCRAP: cents that a lost unit brings (0 to 999)");
        numbers("dept first 0 0 ", 0, 999, ";" + P);
        Check.is("0", 0, () -> sound("dept first 7 8 0;" + P, 1).department(0, 3));
        Check.is("999", 999, () -> sound("dept first 7 8 999;" + P, 1).department(0, 3));
    }

    private static void backs() {
        Check.sentence("to which of 100 lost units so many (1 to 90) come again");
        numbers("dept first 0 0 0 back 0 ", 1, 90, ";" + P);
        Check.is("1", 1, () -> sound("dept first 0 0 0 back 0 1;" + P, 1).department(0, 8));
        Check.is("90", 90, () -> sound("dept first 0 0 0 back 0 90;" + P, 1).department(0, 8));
    }

    private static void backNotBehind() {
        Check.sentence("BACK: a DEPARTMENT, not behind it");
        numbers("dept first 0 0 0 back ", 0, 0, " 5;" + P);
        for (int ahead = 1; ahead < 5; ahead++) {
            numbers(many(D, ahead) + "dept first 0 0 0 back ", 0, ahead, " 5;" + P);
        }
        Check.is("itself", 1, () -> sound(D + "dept first 0 0 0 back 1 5;" + P, 2).department(1, 7));
        Check.is("the first", 0, () -> sound(D + "dept first 0 0 0 back 0 5;" + P, 2).department(1, 7));
        faulty("dept first 0 0 0 back 1 5;" + D + P, 2, 22);
    }

    private static void materialsAtMost() {
        Check.sentence("MATERIALS of a DEPARTMENT (2 at most)");
        ProcessDesk x = sound(many(D, 3) + "mat 1 7;mat 2 8;mat 2 9;" + P, 3);
        Check.is("none", 0, () -> x.department(0, 4));
        Check.is("one", 1, () -> x.department(1, 4));
        Check.is("two", 2, () -> x.department(2, 4));
        Check.is("the second", 9, () -> x.department(2, 6));
        faulty(many(D, 3) + "mat 1 7;mat 2 8;mat 2 9;mat 2 9;" + P, 3, 75);
        sound(many(D, 5) + many("mat 0 0;mat 1 0;mat 2 0;mat 3 0;mat 4 0;", 2) + P, 5);
        faulty(many(D, 5) + many("mat 0 0;mat 1 0;mat 2 0;mat 3 0;mat 4 0;", 2) + "mat 0 0;" + P, 3, 165);
    }

    private static void materialHundredths() {
        Check.sentence("added as work is at so many hundredths (0 to 100)");
        numbers(D + "mat 0 ", 0, 100, ";" + P);
        Check.is("0", 0, () -> sound(D + "mat 0 0;" + P, 1).department(0, 5));
        Check.is("100", 100, () -> sound(D + "mat 0 100;" + P, 1).department(0, 5));
    }

    private static void productsAtMost() {
        Check.sentence("PRODUCTS (4 at most)");
        ProcessDesk x = sound(D + "product 1 5 0;product 2 6 0;product 3 7 0;product 94 8 0;", 1);
        Check.is("four", 4, () -> x.told(1));
        for (int p = 0; p < 4; p++) {
            int of = p;
            Check.is("the price of " + p, p + 5, () -> x.product(of, 1));
        }
        Check.refused("there is no fifth", Check.NO_SUCH, () -> x.product(4, 0));
        faulty(D + many("product 20 5 0;", 5), 3, 77);
    }

    private static void shares() {
        Check.sentence("so many (1 to 100; all together 100)");
        ProcessDesk x = sound(D + "product 1 0 0;product 99 0 0;", 1);
        Check.is("1", 1, () -> x.product(0, 0));
        Check.is("99", 99, () -> x.product(1, 0));
        Check.is("100", 100, () -> sound(D + "product 100 0 0;", 1).product(0, 0));
        faulty(D + "product 0 0 0;product 100 0 0;", 2, 25);
        faulty(D + "product 101 0 0;", 2, 25);
        faulty(D + "product 4294967396 0 0;", 2, 25);
        faulty(D + "product 50 0 0;product 49 0 0;", 4, 47);
        faulty(D + "product 50 0 0;product 51 0 0;", 4, 47);
        faulty(D + "product 100 0 0;product 1 0 0;", 4, 47);
        faulty(D + "product 100 0 0;product 100 0 0;", 4, 49);
    }

    private static void prices() {
        Check.sentence("PRICE, COST of what is yet to be done (cents a unit, 0 to 9,999 each)");
        numbers(D + "product 100 ", 0, 9_999, " 0;");
        numbers(D + "product 100 0 ", 0, 9_999, ";");
        ProcessDesk x = sound(D + "product 50 0 9999;product 50 9999 0;", 1);
        Check.is("price 0", 0, () -> x.product(0, 1));
        Check.is("cost 9999", 9_999, () -> x.product(0, 2));
        Check.is("price 9999", 9_999, () -> x.product(1, 1));
        Check.is("cost 0", 0, () -> x.product(1, 2));
    }

    private static void mainOrBy() {
        Check.sentence("MAIN (0) or BY (1)");
        ProcessDesk x = sound(D + "product 50 0 0;product 50 0 0 by;", 1);
        Check.is("main", 0, () -> x.product(0, 3));
        Check.is("by", 1, () -> x.product(1, 3));
    }

    private static void storeNotTold() {
        Check.sentence("STORE of PRODUCTS: FIRST-IN or AVERAGE (AVERAGE, if not told)");
        Check.is("not told", 1, () -> sound(D + P, 1).told(4));
        Check.is("first-in", 0, () -> sound(D + P + "store first;", 1).told(4));
        Check.is("average", 1, () -> sound(D + P + "store average;", 1).told(4));
        ProcessDesk x = sound(D + P + "store first;", 1);
        Check.is("not told anew", 1, () -> Check.tell(x, D + P));
        Check.is("so it is by average", 1, () -> x.told(4));
    }

    private static void bytesAtMost() {
        Check.sentence("A TEXT has up to 400 bytes: { LINE \";\" }");
        String blank = many(" ", BYTES - D.length() - P.length());
        sound(D + P + blank, 1);
        sound(blank + D + P, 1);
        sound(D + "product " + many("0", blank.length()) + "100 1 0;", 1);
        faulty(D + "product " + many("0", blank.length()) + "101 1 0;", 2, 25);
        faulty(D + P + blank.substring(1) + "x", 1, BYTES - 1);
        faulty(D + P + blank.substring(1) + ";", 1, BYTES - 1);
        faulty(many(" ", BYTES - 4) + "dept", 1, BYTES);
        faulty(many("x", BYTES), 1, 0);
        faulty(many("9", BYTES), 1, 0);
        String largest = many("dept average 100 50 999 back 0 90;", 5) + many("mat 0 99;mat 4 99;", 2)
                + "product 25 9999 9999;product 25 9999 9999;product 25 9999 9999 by;product 25 9999 9999 by;"
                + "store average;";
        sound(largest + many(" ", BYTES - largest.length()), 5);
    }

    private static void noLine() {
        Check.sentence("If there is none of these: 4, at the length: no DEPARTMENT");
        faulty("", 4, 0);
        faulty(" ", 4, 1);
        faulty(many(" ", 399), 4, 399);
        faulty(many(" ", BYTES), 4, BYTES);
        faulty(P, 4, 16);
        faulty(P + "store first; ", 4, 29);
    }

    private static void linesInAnyOrder() {
        Check.sentence("LINE: \"dept\" (\"first\" | \"average\") N N N [ \"back\" N N ] (POINT, RATE, SCRAP; "
                + "DEPARTMENT, of 100)");
        sound("store first;" + P + D + "mat 0 1;", 1);
        sound(D + "mat 0 1;" + P + "store average;mat 0 2;", 1);
        ProcessDesk x = sound("product 50 1 0;" + D + "product 50 2 0;dept first 1 2 3 back 0 4;", 2);
        int[] due = {0, 1, 2, 3, 0, -1, -1, 0, 4};
        for (int what = 0; what < due.length; what++) {
            int of = what;
            Check.is("what is told: " + what, due[what], () -> x.department(1, of));
        }
    }

    private static void departmentToldAhead() {
        Check.sentence("\"mat\" N N (DEPARTMENT told ahead; hundredths)");
        numbers(D + "mat ", 0, 0, " 5;" + P);
        numbers(many(D, 2) + "mat ", 0, 1, " 5;" + P);
        numbers(many(D, 5) + "mat ", 0, 4, " 5;" + P);
        faulty("mat 0 5;" + D + P, 2, 4);
        faulty(D + "mat 1 5;" + D + P, 2, 21);
    }

    private static void storeOnce() {
        Check.sentence("\"store\" (\"first\" | \"average\") (once)");
        sound(D + P + "store first;", 1);
        sound(D + P, 1);
        faulty(D + P + "store first;store first;", 1, 45);
        faulty("store average; store first;" + D + P, 1, 15);
    }

    private static void digitsAsMany() {
        Check.sentence("N: digits as many as stand there");
        ProcessDesk x = sound("dept first0000000000000000000050 050 0999back0 0090;product0100 09999 00000;", 1);
        Check.is("point", 50, () -> x.department(0, 1));
        Check.is("rate", 50, () -> x.department(0, 2));
        Check.is("scrap", 999, () -> x.department(0, 3));
        Check.is("back", 90, () -> x.department(0, 8));
        Check.is("price", 9_999, () -> x.product(0, 1));
        faulty("dept first 000;" + P, 1, 14);
        faulty("dept first 1234 0 0;", 2, 11);
        faulty("dept first 0 0 0/;", 1, 16);
        faulty("dept first 0 0 0:;", 1, 16);
        faulty("dept first / 0 0;", 1, 11);
        faulty("dept first : 0 0;", 1, 11);
        faulty("dept first +5 0 0;", 1, 11);
        faulty("dept first 5.0 0 0;", 1, 12);
    }

    private static void lettersAsMany() {
        Check.sentence("words: small letters as many as stand there");
        faulty("deptfirst 0 0 0;", 1, 0);
        faulty("dept firstly 0 0 0;", 1, 5);
        faulty("depts first 0 0 0;", 1, 0);
        faulty("dept averages 0 0 0;", 1, 5);
        faulty("dep first 0 0 0;", 1, 0);
        faulty("Dept first 0 0 0;", 1, 0);
        faulty("depT first 0 0 0;", 1, 0);
        faulty("xept first 0 0 0;", 1, 0);
        faulty("dept xirst 0 0 0;", 1, 5);
        faulty("dept xverage 0 0 0;", 1, 5);
        faulty("dept first 0 0 0 xack 0 5;", 1, 17);
        faulty("xroduct 100 1 0;", 1, 0);
        faulty("product 100 1 0 xy;", 1, 16);
        faulty("xtore first;", 1, 0);
        faulty(D + "xat 0 5;", 1, 17);
        faulty("dept firstz 0 0 0;", 1, 5);
        faulty("dept firsta 0 0 0;", 1, 5);
        faulty("dept` first 0 0 0;", 1, 4);
        faulty("dept{ first 0 0 0;", 1, 4);
        faulty("dept first 0 0 0backs 0 5;", 1, 16);
        faulty("dept first 0 0 0 bac k 0 5;", 1, 17);
        faulty(D + "mats 0 5;", 1, 17);
        faulty("product 100 1 0 bye;", 1, 16);
        faulty("product 100 1 0 b;", 1, 16);
        faulty("products 100 1 0;", 1, 0);
        faulty("stores first;", 1, 0);
        faulty("store firsts;", 1, 6);
    }

    private static void blanks() {
        Check.sentence("blanks (32) may stand ahead of all these and of \";\", and at the end");
        sound("   dept   first   0   0   0   back   0   5   ;   mat   0   5   ;   product   100   1   0   ;"
                + "   store   first   ;   ", 1);
        sound("   product   50   1   0   by   ;product 50 1 0;" + D, 1);
        sound("dept first0 0 0back0 5;mat0 5;product50 1 0by;product50 1 0;store first;", 1);
        for (int sign : new int[] {0, 9, 10, 13, 31, 33, 127, 128, 160, 255}) {
            faulty((char) sign + D + P, 1, 0);
            faulty("dept" + (char) sign + "first 0 0 0;" + P, 1, 4);
            faulty("dept first 0 0 0" + (char) sign + ";" + P, 1, 16);
            faulty(D + P + (char) sign, 1, 33);
        }
    }

    private static void leastByteFirst() {
        Check.sentence("of several of 1 to 3 the one whose first byte is least");
        faulty("dept first 101 51 1000;", 2, 11);
        faulty("dept first 0 51 x", 2, 13);
        faulty("dept first x 51 0;", 1, 11);
        faulty("x dept first 101 0 0;", 1, 0);
        faulty(many(D, 5) + "dept x 101", 3, 85);
        faulty("dept x 0 0;" + many(D, 5), 1, 5);
        faulty(D + "mat 0 1;mat 0 2;mat 0 101;", 3, 33);
        faulty(D + "mat 0 1;mat 0 2;mat 0 x", 3, 33);
        faulty(D + "mat 0 1;mat 0 101;mat 0 3;", 2, 31);
        faulty(many("product 10 0 0;", 4) + "product 101 10000 x", 3, 60);
        faulty(many("product 10 0 0;", 3) + "product 0 0 0;product 10 0 0;", 2, 53);
    }

    private static void oneByteFirstInList() {
        Check.sentence("of one byte the first in this list: 1 what can't stand there");
        faulty(many(D, 4) + "dept first 0 0 0 dept first 0 0 0;", 1, 85);
        faulty(many(D, 5) + "mat 0 0 dept first 0 0 0;", 1, 93);
        faulty(D + "mat 0 0;mat 0 0 mat 0 0;", 1, 33);
        faulty(many("product 10 0 0;", 3) + "product 10 0 0 product 10 0 0;", 1, 60);
        faulty("dept first 0 0 0 9999;", 1, 17);
        faulty("store first 9999;", 1, 12);
        faulty(D + "store first;store 9999;", 1, 29);
    }

    /** Cut short behind n bytes, a word that is cut is none; all else ends too early. */
    private static void endsTooEarly() {
        Check.sentence("(at the length, if the text ends too early; a second \"store\")");
        String line = "dept first 5 5 5 back 0 5 ;product 100 1 0;product 1 1 0 by ; store average;mat 0 5;";
        int line1 = line.indexOf(';') + 1;
        for (int n = 1; n < line.length(); n++) {
            boolean inWord = isLetter(line.charAt(n - 1)) && isLetter(line.charAt(n));
            boolean lineEnds = line.substring(0, n).trim().endsWith(";");
            int wordFrom = n;
            while (inWord && wordFrom > 0 && isLetter(line.charAt(wordFrom - 1))) {
                wordFrom--;
            }
            String text = line.substring(0, n);
            if (!lineEnds) {
                faulty(text, 1, wordFrom);
            } else if (n == line1) {
                faulty(text, 4, n);
            }
        }
        faulty("dept  ", 1, 6);
        faulty("dept first 0 0 0 back   ", 1, 24);
        behindTheText("dept first 0 0 0;", 4, 4);
        behindTheText("deptfirst", 4, 4);
        behindTheText("dept first 1001 0 0;", 14, 14);
        behindTheText("dept first 0 0 0 ;", 16, 16);
        behindTheText("dept first 0 0 0 ;", 17, 17);
        behindTheText("dept  first", 5, 5);
    }

    /** What is on the tape behind the n bytes is no part of the text. */
    private static void behindTheText(String fed, int n, int place) {
        ProcessDesk x = new ProcessDesk();
        Check.feedAll(x, fed);
        Check.is("text(" + n + ") of '" + fed + "'", -9, () -> x.text(n));
        Check.is("place in " + n + " bytes of '" + fed + "'", place, x::fault);
    }

    private static boolean isLetter(char sign) {
        return sign >= 'a' && sign <= 'z';
    }

    private static void secondStore() {
        Check.sentence("a second \"store\")");
        faulty("store first;" + D + P + "store first;", 1, 45);
        faulty("store first;  store", 1, 14);
        faulty("store first;stores", 1, 12);
        sound(D + "store average;" + P, 1);
    }

    private static void numbersNoneSuch() {
        Check.sentence("2 a number that is none such");
        faulty("dept first 101 0 0;", 2, 11);
        faulty("dept first  00101 0 0;", 2, 12);
        faulty("dept first 101", 2, 11);
        faulty("dept first 0 51", 2, 13);
        faulty("dept first 0 0 1000", 2, 15);
        faulty(D + "product 0", 2, 25);
        faulty(D + "product 000", 2, 25);
    }

    private static void departmentsNotTold() {
        Check.sentence("(also a DEPARTMENT that is not told ahead, of \"back\" one behind the one that is told, "
                + "which is told already by then itself)");
        faulty("mat 0 5;", 2, 4);
        faulty(D + "mat 1", 2, 21);
        faulty("dept first 0 0 0 back 1 5;", 2, 22);
        sound("dept first 0 0 0 back 0 5;" + P, 1);
        faulty(many(D, 4) + "dept first 0 0 0 back 5 5;" + P, 2, 90);
        sound(many(D, 4) + "dept first 0 0 0 back 4 5;" + P, 5);
        faulty(D + "mat 99999999999999999999 5;", 2, 21);
    }

    private static void tooMany() {
        Check.sentence("3 a sixth \"dept\", a third \"mat\" of a DEPARTMENT (by its word), a fifth \"product\"");
        faulty(many(D, 5) + P + "  dept", 3, 103);
        faulty(many(D, 5) + "dept;", 3, 85);
        faulty(many(D, 5) + "depts", 1, 85);
        faulty(many("product 1 0 0;", 4) + " product", 3, 57);
        faulty(many("product 1 0 0;", 4) + "produc", 1, 56);
        faulty(D + "mat 0 1;mat 0 2;  mat 0 3;", 3, 35);
        sound(many(D, 5) + "product 25 0 0;product 25 0 0;product 25 0 0;product 25 0 0;mat 4 0;mat 4 0;", 5);
    }

    private static void thirdMaterialByItsWord() {
        Check.sentence("a third \"mat\" of a DEPARTMENT (by its word)");
        faulty(D + D + "mat 0 1;mat 1 1;mat 0 2;mat 1 2;mat 1 3;", 3, 66);
        faulty(D + D + "mat 0 1;mat 1 1;mat 0 2;mat 1 2;mat 0", 3, 66);
        faulty(D + D + "mat 0 1;mat 1 1;mat 0 2;mat 1 2;mat", 1, 69);
        faulty(D + D + "mat 0 1;mat 1 1;mat 0 2;mat 1 2;mat 2 0;", 2, 70);
        sound(D + D + "mat 0 1;mat 1 1;mat 0 2;mat 1 2;" + P, 2);
    }

    private static void noneOfTheseFirst() {
        Check.sentence("If there is none of these: 4, at the length");
        faulty(D + "product 99 0 0;x", 1, 32);
        faulty("product 100 0 0 by;mat 0 0;", 2, 23);
        faulty("product 100 0 0 by;dept", 1, 23);
        faulty("product 99 0 0;   ", 4, 18);
    }

    private static void notWhole() {
        Check.sentence("no DEPARTMENT, PRODUCTS that are not 100 together, none that is MAIN");
        faulty(P, 4, 16);
        faulty(D, 4, 17);
        faulty(D + "product 99 0 0;", 4, 32);
        faulty(D + "product 1 0 0;product 100 0 0;", 4, 47);
        faulty(D + "product 100 0 0 by;", 4, 36);
        faulty(D + many("product 25 0 0 by;", 4), 4, 89);
        sound(D + many("product 25 0 0 by;", 3) + "product 25 0 0;", 1);
        sound(D + "product 25 0 0;" + many("product 25 0 0 by;", 3), 1);
    }
}
