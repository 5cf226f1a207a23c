/** Promises 25 to 27: owes, net, debtor. */
final class HeatTest {
    private static final int[] NO_HOUSES = {-1, 4, 7, Integer.MIN_VALUE, Integer.MAX_VALUE};
    private static final String FOUR = Check.TOWN + ";" + Check.house("a", 3, 10, "x") + ";" + Check.house("b", 5, 15, "x")
            + ";" + Check.house("c", 9, 999, "x") + ";" + Check.house("d", 1, 0, "x");

    private HeatTest() {
    }

    public static void main(String[] args) {
        owes();
        net();
        debtor();
        Check.end();
    }

    private static void owes() {
        Check.promise(25, "HEAT: a house's bill goes by its rooms and the wrong one, each as much: the house of which that is"
                + " OWES that share", HeatTest::share);
        Check.promise(25, "What a house OWES in all, the upper WHOLE or the lower, in lowest terms", HeatTest::lowestTerms);
        Check.promise(25, "(0 by 1)", HeatTest::zeroByOne);
        Check.promise(25, "(nobody does, if it isn't known)", HeatTest::nobodyOwes);
        Check.promise(25, "-1: 1.", HeatTest::owesRefused);
    }

    private static void net() {
        Check.promise(26, "NET: what all owe it less what it owes.", HeatTest::less);
        Check.promise(26, "NET, likewise; the upper one may be below 0.", HeatTest::belowZero);
        Check.promise(26, "NET, likewise", HeatTest::netOfZero);
        Check.promise(26, "Long.MIN_VALUE: 1.", HeatTest::netRefused);
    }

    private static void debtor() {
        Check.promise(27, "The house that OWES most", HeatTest::owesMost);
        Check.promise(27, "the first such", HeatTest::firstDebtor);
        Check.promise(27, "-2 none OWES any", HeatTest::noDebtor);
        Check.promise(27, "NONE: 1 (no TOWN).", HeatTest::debtorWithoutTown);
    }

    private static void owes(WrongRoom x, int h, long upper, long lower) {
        Check.answered(x, "owes(" + h + ", false)", x.owes(h, false), upper);
        Check.answered(x, "owes(" + h + ", true)", x.owes(h, true), lower);
    }

    private static void net(WrongRoom x, int h, long upper, long lower) {
        Check.answered(x, "net(" + h + ", false)", x.net(h, false), upper);
        Check.answered(x, "net(" + h + ", true)", x.net(h, true), lower);
    }

    private static void share() {
        WrongRoom x = Check.town(FOUR + Check.wrongs("bca."));
        owes(x, 0, 999, 10);
        owes(x, 1, 5, 2);
        owes(x, 2, 5, 2);
        WrongRoom four = Check.town(FOUR + Check.wrongs("badc"));
        owes(four, 3, 999, 10);
        four.exchange(0, 2);
        owes(four, 1, 999, 10);
        owes(four, 3, 5, 2);
    }

    private static void lowestTerms() {
        String text = Check.TOWN + ";" + Check.house("a", 9, 990, "x") + ";" + Check.house("b", 7, 12, "x") + ";"
                + Check.house("c", 6, 1, "x") + ";" + Check.house("d", 1, 999, "x");
        WrongRoom x = Check.town(text + Check.wrongs("bcda"));
        owes(x, 1, 99, 1);
        owes(x, 2, 3, 2);
        owes(x, 3, 1, 7);
        owes(x, 0, 999, 2);
    }

    private static void zeroByOne() {
        WrongRoom x = Check.town(FOUR + Check.wrongs("...a"));
        owes(x, 0, 0, 1);
        owes(x, 1, 0, 1);
    }

    private static void nobodyOwes() {
        WrongRoom x = Check.town(FOUR);
        for (int h = 0; h < 4; h++) {
            owes(x, h, 0, 1);
            net(x, h, 0, 1);
        }
        WrongRoom one = Check.town(FOUR + Check.wrongs("b..."));
        owes(one, 0, 0, 1);
        owes(one, 2, 0, 1);
        owes(one, 1, 5, 2);
    }

    private static void owesRefused() {
        WrongRoom x = Check.town(FOUR);
        for (int h : NO_HOUSES) {
            Check.refused(x, "owes(" + h + ", false)", x.owes(h, false), -1, 1);
            Check.refused(x, "owes(" + h + ", true)", x.owes(h, true), -1, 1);
        }
    }

    private static void less() {
        WrongRoom x = Check.town(FOUR + Check.wrongs("bca."));
        net(x, 0, -487, 5);
        net(x, 2, 487, 5);
        net(x, 1, 0, 1);
        WrongRoom alone = Check.town(FOUR + Check.wrongs("b..."));
        net(alone, 0, 5, 2);
        WrongRoom thirds = Check.town(Check.TOWN + ";" + Check.house("a", 2, 1, "x") + ";" + Check.house("b", 3, 1, "x")
                + ";wrong a of b;wrong b of a");
        net(thirds, 0, 1, 12);
        net(thirds, 1, -1, 12);
    }

    private static void belowZero() {
        WrongRoom x = Check.town(FOUR + Check.wrongs("..a."));
        net(x, 0, -999, 10);
        WrongRoom most = Check.town(Check.TOWN + ";" + Check.house("a", 1, 999, "x") + ";" + Check.house("b", 1, 0, "x")
                + ";wrong a of b;wrong b of a");
        net(most, 0, 999, 2);
        net(most, 1, -999, 2);
        WrongRoom whole = Check.town(Check.TOWN + ";" + Check.house("a", 1, 4, "x") + ";" + Check.house("b", 1, 0, "x")
                + ";wrong a of b");
        net(whole, 1, -2, 1);
    }

    private static void netOfZero() {
        WrongRoom x = Check.town(FOUR + Check.wrongs("ba.."));
        net(x, 0, 0, 1);
        net(x, 1, 0, 1);
        net(x, 3, 0, 1);
    }

    private static void netRefused() {
        WrongRoom x = Check.town(FOUR);
        for (int h : NO_HOUSES) {
            Check.refused(x, "net(" + h + ", false)", x.net(h, false), Long.MIN_VALUE, 1);
            Check.refused(x, "net(" + h + ", true)", x.net(h, true), Long.MIN_VALUE, 1);
        }
    }

    private static void owesMost() {
        WrongRoom x = Check.town(FOUR + Check.wrongs("bca."));
        Check.answered(x, "debtor()", x.debtor(), 0);
        WrongRoom less = Check.town(FOUR + Check.wrongs("c.b."));
        Check.answered(less, "debtor(), the second", less.debtor(), 1);
        WrongRoom four = Check.town(FOUR + Check.wrongs("badc"));
        Check.answered(four, "debtor(), the last", four.debtor(), 3);
        four.exchange(0, 2);
        Check.answered(four, "debtor() NOW", four.debtor(), 1);
        WrongRoom close = Check.town(Check.TOWN + ";" + Check.house("a", 8, 998, "x") + ";" + Check.house("b", 7, 887, "x")
                + ";wrong a of b;wrong b of a");
        Check.answered(close, "debtor() of 887 by 8 and 998 by 9", close.debtor(), 1);
        WrongRoom small = Check.town(Check.TOWN + ";" + Check.house("a", 9, 1, "x") + ";" + Check.house("b", 1, 0, "x")
                + ";wrong a of b");
        Check.answered(small, "debtor() of 1 by 10", small.debtor(), 1);
    }

    private static void firstDebtor() {
        WrongRoom like = Check.town(FOUR + Check.wrongs("ca.."));
        Check.due("owes(0, false)", like.owes(0, false), like.owes(2, false));
        Check.due("owes(0, true)", like.owes(0, true), like.owes(2, true));
        Check.answered(like, "debtor()", like.debtor(), 0);
    }

    private static void noDebtor() {
        WrongRoom x = Check.town(FOUR);
        Check.answered(x, "debtor(), nothing is known", x.debtor(), -2);
        WrongRoom none = Check.town(FOUR + Check.wrongs("...a"));
        Check.answered(none, "debtor() of 0", none.debtor(), -2);
        WrongRoom one = Check.town(FOUR + Check.wrongs("b..a"));
        Check.answered(one, "debtor(), one owes 0", one.debtor(), 1);
    }

    private static void debtorWithoutTown() {
        WrongRoom x = new WrongRoom();
        Check.refused(x, "debtor()", x.debtor(), 1);
    }
}
