/** PLANS (promise 25). */
public final class PlanTest {
    public static void main(String[] args) {
        withoutBack();
        backToItself();
        backToOthers();
        refusals();
        Check.end("PlanTest");
    }

    private static void plan(ProcessDesk x, int n, long passes, long rounds, long... flows) {
        for (int d = 0; d < flows.length; d++) {
            int of = d;
            Check.is("plan(" + n + ", " + d + ")", flows[d], () -> x.plan(n, of));
        }
        Check.is("plan(" + n + ", 5)", passes, () -> x.plan(n, 5));
        Check.is("plan(" + n + ", 6)", rounds, () -> x.plan(n, 6));
    }

    private static void withoutBack() {
        ProcessDesk x = new ProcessDesk();
        plan(x, 0, 0, 0, 0);
        plan(x, 10_000, 10_000_000_000L, 1, 10_000_000_000L);
        ProcessDesk y = Check.deskOf("dept first 0 10 0;dept first 0 33 0;dept first 0 0 0;product 100 0 0;");
        plan(y, 1, 603_000, 3, 1_000_000, 900_000, 603_000);
        plan(y, 0, 0, 0, 0, 0, 0);
    }

    private static void backToItself() {
        ProcessDesk x = Check.deskOf("dept first 0 50 0 back 0 90;product 100 0 0;");
        plan(x, 1, 909_091, 19, 1_818_181);
        plan(x, 10_000, 9_090_909_091L, 31, 18_181_818_181L);
        plan(x, 1, 909_091, 19, 1_818_181);
        long print = x.print();
        Check.is("nothing stays changed", print, x::print);
        Check.is("no act", 1, () -> x.told(6));
    }

    private static void backToOthers() {
        ProcessDesk x = Check.deskOf("dept first 0 10 0;dept first 0 20 0 back 0 50;product 100 0 0;");
        plan(x, 1000, 791_208_792, 18, 1_098_901_098, 989_010_989);
        ProcessDesk y = Check.deskOf("dept first 0 33 0 back 0 1;dept first 0 7 0 back 1 33;product 100 0 0;");
        plan(y, 3, 1_919_837, 5, 3_009_932, 2_064_340);
        String to0 = "dept first 0 50 0 back 0 90;";
        ProcessDesk z = Check.deskOf(to0 + to0 + to0 + to0 + to0 + "product 100 0 0;");
        plan(z, 10_000, 2_439_024_391L, 354, 78_048_780_481L, 39_024_390_241L, 19_512_195_121L, 9_756_097_561L,
                4_878_048_781L);
        ProcessDesk v = Check.deskOf(to0 + to0 + "dept first 0 50 0 back 1 90;dept first 0 50 0 back 2 90;"
                + "dept first 0 50 0 back 4 90;product 100 0 0;");
        plan(v, 10_000, 4_434_589_800L, 191, 42_926_829_262L, 30_243_902_434L, 19_512_195_118L, 9_756_097_559L,
                8_869_179_599L);
    }

    private static void refusals() {
        ProcessDesk x = new ProcessDesk();
        Check.refused("plan(-1, 0)", Check.ARGUMENT, () -> x.plan(-1, 0));
        Check.refused("plan(10001, 1)", Check.ARGUMENT, () -> x.plan(10_001, 1));
        Check.refused("plan(1, -1)", Check.ARGUMENT, () -> x.plan(1, -1));
        Check.refused("plan(1, 7)", Check.ARGUMENT, () -> x.plan(1, 7));
        Check.refused("plan(1, 1)", Check.NO_SUCH, () -> x.plan(1, 1));
        Check.refused("plan(1, 4)", Check.NO_SUCH, () -> x.plan(1, 4));
        Check.same("status 0", 2, x.status(0));
        Check.same("status 1", 4, x.status(1));
    }
}
