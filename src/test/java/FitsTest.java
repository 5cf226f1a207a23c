/** Promises 19 to 24: fits, could, surely, firstOf, ask, askLeaves. */
final class FitsTest {
    private static final int MIN = Integer.MIN_VALUE;
    private static final int MAX = Integer.MAX_VALUE;
    private static final int[] NO_HOUSES = {-1, 3, 7, MIN, MAX};
    private static final String FOUR = Check.TWO + ";" + Check.house("c", 4, 0, "x") + ";" + Check.house("d", 2, 0, "y");

    private FitsTest() {
    }

    public static void main(String[] args) {
        rows();
        could();
        surely();
        firstOf();
        ask();
        Check.end();
    }

    private static void rows() {
        Check.promise(19, "FITS: how many rows.", FitsTest::nothingTold);
        Check.promise(19, "III. FITS: each wrong room that isn't known is of another house", FitsTest::notItsOwn);
        Check.promise(19, "each wrong room that isn't known", FitsTest::allKnown);
        Check.promise(19, "(of each house one at most, those known too)", FitsTest::oneAtMost);
        Check.promise(19, "that smells as every sign there says", FitsTest::everySign);
        Check.promise(19, "and has as many rooms as every noise there says, or more: all such rows.", FitsTest::everyNoise);
        Check.promise(19, "FITS: how many rows.", FitsTest::noRow);
        Check.promise(19, "FITS: how many rows.", FitsTest::anotherTown);
        Check.promise(19, "NONE: 1 (no TOWN).", FitsTest::fitsWithoutTown);
    }

    private static void could() {
        Check.promise(20, "COULD: of which houses a house's wrong room may be, as bits", FitsTest::couldBe);
        Check.promise(20, "COULD, SURELY of a house.", FitsTest::couldByOthers);
        Check.promise(20, "(the one, if it is known and there is a row)", FitsTest::couldKnown);
        Check.promise(20, "and there is a row", FitsTest::couldWithoutRow);
        Check.promise(20, "NONE: 1.", FitsTest::couldRefused);
    }

    private static void surely() {
        Check.promise(21, "SURELY: the one in all rows", FitsTest::surelyOne);
        Check.promise(21, "; -2.", FitsTest::notSurely);
        Check.promise(21, "; -2.", FitsTest::surelyWithoutRow);
        Check.promise(21, "NONE: 1.", FitsTest::surelyRefused);
    }

    private static void firstOf() {
        Check.promise(22, "The house of which a house's wrong room is in the first row (by houses' numbers)",
                FitsTest::firstRow);
        Check.promise(22, "-2 there is none", FitsTest::noFirstRow);
        Check.promise(22, "NONE: 1.", FitsTest::firstOfRefused);
    }

    private static void ask() {
        Check.promise(23, "ASK: the house not known by which, it being told whose its wrong room is, at most fewest rows are"
                + " left", FitsTest::fewestLeft);
        Check.promise(23, "ASK: the house not known by which", FitsTest::notKnownAlone);
        Check.promise(23, "the first such.", FitsTest::firstToAsk);
        Check.promise(23, "ASK; -2 all are known", FitsTest::askAllKnown);
        Check.promise(23, "or there are no rows.", FitsTest::askWithoutRow);
        Check.promise(23, "NONE: 1 (no TOWN).", FitsTest::askWithoutTown);
        Check.promise(24, "How many are left at most then", FitsTest::leftAtMost);
        Check.promise(24, "-2 likewise.", FitsTest::askAllKnown);
        Check.promise(24, "-2 likewise.", FitsTest::askWithoutRow);
        Check.promise(24, "NONE: 1 (no TOWN).", FitsTest::askWithoutTown);
    }

    private static void nothingTold() {
        int[] rows = {1, 2, 9, 44, 265, 1854};
        for (int n = 2; n <= 7; n++) {
            WrongRoom x = Check.town(Check.houses(n));
            Check.answered(x, "fits() of " + n, x.fits(), rows[n - 2]);
        }
    }

    private static void notItsOwn() {
        Check.due("fits() of two", Check.town(Check.houses(2)).fits(), 1);
        Check.due("fits(), one left for itself", Check.town(Check.houses(3) + Check.wrongs("ba.")).fits(), 0);
        Check.due("fits(), one left for another", Check.town(Check.houses(3) + Check.wrongs("bc.")).fits(), 1);
        Check.due("fits(), its own smell alone", Check.town(Check.TWO + ";sign a x").fits(), 0);
    }

    private static void allKnown() {
        WrongRoom all = Check.town(Check.houses(3) + Check.wrongs("bca") + ";sign a y;noise b 9");
        Check.answered(all, "fits(), signs of known rooms say nothing", all.fits(), 1);
        WrongRoom some = Check.town(Check.houses(4) + Check.wrongs("b...") + ";sign a y;noise a 9");
        Check.answered(some, "fits(), signs of known rooms say nothing", some.fits(),
                Check.town(Check.houses(4) + Check.wrongs("b...")).fits());
    }

    private static void oneAtMost() {
        Check.due("fits() of one known", Check.town(Check.houses(3) + Check.wrongs("b..")).fits(), 1);
        WrongRoom x = Check.town(Check.houses(4) + Check.wrongs("b.d."));
        Check.answered(x, "fits() of two known", x.fits(), 2);
        Check.due("could(1)", x.could(1), 0b0101);
        Check.due("could(3)", x.could(3), 0b0101);
        WrongRoom same = Check.town(Check.TWO + ";" + Check.house("c", 3, 0, "x") + ";sign a y;sign c y");
        Check.answered(same, "fits(), two rooms of the one house", same.fits(), 0);
    }

    private static void everySign() {
        WrongRoom x = Check.town(FOUR + ";sign a y");
        Check.answered(x, "could(0)", x.could(0), 0b1010);
        Check.due("could(0), the same sign twice", Check.town(FOUR + ";sign a y;sign a y").could(0), 0b1010);
        Check.due("fits() by two smells", Check.town(FOUR + ";sign a y;sign a x").fits(), 0);
        Check.due("fits() by a smell of none", Check.town(FOUR + ";sign a z").fits(), 0);
        Check.due("could(1), a sign elsewhere", Check.town(FOUR + ";sign a y").could(1), 0b1101);
        String eight = FOUR + ";sign b x".repeat(7);
        Check.due("fits(), the eighth sign", Check.town(eight + ";sign b y").fits(), 0);
    }

    private static void everyNoise() {
        Check.due("could(0), as many", Check.town(FOUR + ";noise a 5").could(0), 0b0010);
        Check.due("could(0), as many or more", Check.town(FOUR + ";noise a 4").could(0), 0b0110);
        Check.due("could(0), more than there are", Check.town(FOUR + ";noise a 6").could(0), 0);
        Check.due("could(2), every noise", Check.town(FOUR + ";noise c 3;noise c 5;noise c 1").could(2), 0b0010);
        Check.due("could(1), its own rooms do not count", Check.town(FOUR + ";noise b 5").fits(), 0);
        Check.due("could(0), the fourth noise", Check.town(FOUR + ";noise a 1;noise a 1;noise a 1;noise a 5").could(0), 2);
    }

    private static void noRow() {
        WrongRoom x = noRows();
        Check.answered(x, "fits()", x.fits(), 0);
        Check.answered(x, "fits() again", x.fits(), 0);
    }

    private static WrongRoom noRows() {
        return Check.town(Check.houses(3) + Check.wrongs("b..") + ";sign b y");
    }

    private static void anotherTown() {
        WrongRoom x = Check.town(Check.houses(4));
        Check.due("fits()", x.fits(), 9);
        Check.tell(x, Check.houses(5));
        Check.due("fits() of another town", x.fits(), 44);
        Check.tell(x, "town");
        Check.due("fits() behind a FAULT", x.fits(), 44);
        Check.tell(x, Check.houses(2));
        Check.due("fits() of two", x.fits(), 1);
        Check.due("could(0) of two", x.could(0), 2);
    }

    private static void fitsWithoutTown() {
        WrongRoom x = new WrongRoom();
        Check.refused(x, "fits()", x.fits(), 1);
    }

    private static void couldBe() {
        for (int n = 2; n <= 7; n++) {
            for (int h = 0; h < n; h++) {
                WrongRoom x = Check.town(Check.houses(n));
                Check.answered(x, "could(" + h + ") of " + n, x.could(h), (1 << n) - 1 - (1 << h));
            }
        }
    }

    /** A house that the signs allow, but in no whole row. */
    private static void couldByOthers() {
        WrongRoom x = Check.town(FOUR + ";sign a y;noise c 3;noise c 5");
        Check.due("could(0)", x.could(0), 0b1000);
        Check.due("could(2)", x.could(2), 0b0010);
        Check.due("could(1)", x.could(1), 0b0101);
        Check.due("could(3)", x.could(3), 0b0101);
        Check.due("surely(0)", x.surely(0), 3);
        Check.due("fits()", x.fits(), 2);
    }

    private static void couldKnown() {
        WrongRoom x = Check.town(Check.houses(4) + Check.wrongs("b.d."));
        Check.answered(x, "could(0)", x.could(0), 0b0010);
        Check.answered(x, "could(2)", x.could(2), 0b1000);
        x.exchange(0, 2);
        Check.answered(x, "could(0) NOW", x.could(0), 0b1000);
        Check.answered(x, "could(2) NOW", x.could(2), 0b0010);
        Check.answered(x, "could(1) NOW", x.could(1), 0b0101);
        WrongRoom all = Check.town(Check.houses(3) + Check.wrongs("bca"));
        Check.answered(all, "could(0), all are known", all.could(0), 0b0010);
        WrongRoom one = Check.town(Check.houses(3) + Check.wrongs("b.a"));
        Check.due("fits(), there is one row", one.fits(), 1);
        Check.answered(one, "could(0), there is one row", one.could(0), 0b0010);
        Check.answered(one, "could(1), there is one row", one.could(1), 0b0100);
    }

    private static void couldWithoutRow() {
        WrongRoom x = noRows();
        Check.answered(x, "could(0), known", x.could(0), 0);
        Check.answered(x, "could(1)", x.could(1), 0);
        Check.answered(x, "could(2)", x.could(2), 0);
    }

    private static void couldRefused() {
        WrongRoom x = noRows();
        for (int h : NO_HOUSES) {
            Check.refused(x, "could(" + h + ")", x.could(h), 1);
        }
    }

    private static void surelyOne() {
        WrongRoom x = Check.town(Check.houses(4) + Check.wrongs("b.d."));
        Check.answered(x, "surely(0), known", x.surely(0), 1);
        x.exchange(0, 2);
        Check.answered(x, "surely(0) NOW", x.surely(0), 3);
        WrongRoom all = Check.town(Check.houses(3) + Check.wrongs("bca"));
        Check.answered(all, "surely(2), all are known", all.surely(2), 0);
        WrongRoom two = Check.town(Check.houses(2));
        Check.answered(two, "surely(0) of two", two.surely(0), 1);
        Check.answered(two, "surely(1) of two", two.surely(1), 0);
        WrongRoom noises = Check.town(FOUR + ";noise c 5");
        Check.answered(noises, "surely(2) by noises", noises.surely(2), 1);
    }

    private static void notSurely() {
        WrongRoom x = Check.town(Check.houses(3));
        for (int h = 0; h < 3; h++) {
            Check.answered(x, "surely(" + h + ")", x.surely(h), -2);
        }
    }

    private static void surelyWithoutRow() {
        WrongRoom x = noRows();
        for (int h = 0; h < 3; h++) {
            Check.answered(x, "surely(" + h + ")", x.surely(h), -2);
        }
    }

    private static void surelyRefused() {
        WrongRoom x = noRows();
        for (int h : NO_HOUSES) {
            Check.refused(x, "surely(" + h + ")", x.surely(h), 1);
        }
    }

    private static void row(String text, int... due) {
        WrongRoom x = Check.town(text);
        for (int h = 0; h < due.length; h++) {
            Check.answered(x, "firstOf(" + h + ") of " + due.length, x.firstOf(h), due[h]);
        }
    }

    private static void firstRow() {
        row(Check.houses(2), 1, 0);
        row(Check.houses(3), 1, 2, 0);
        row(Check.houses(4), 1, 0, 3, 2);
        row(Check.houses(5), 1, 0, 3, 4, 2);
        row(Check.houses(7), 1, 0, 3, 2, 5, 6, 4);
        row(Check.houses(4) + Check.wrongs("b.d."), 1, 0, 3, 2);
        row(Check.houses(4) + Check.wrongs(".a.."), 1, 0, 3, 2);
        row(FOUR + ";sign a y;noise c 5", 3, 0, 1, 2);
        WrongRoom x = Check.town(Check.houses(4) + Check.wrongs("b.d."));
        x.exchange(0, 2);
        Check.due("firstOf(0) NOW", x.firstOf(0), 3);
        Check.due("firstOf(1) NOW", x.firstOf(1), 0);
        Check.tell(x, Check.houses(5) + Check.wrongs("e...."));
        int[] due = {4, 0, 1, 2, 3};
        for (int h = 0; h < due.length; h++) {
            Check.due("firstOf(" + h + ") of another town", x.firstOf(h), due[h]);
        }
    }

    private static void noFirstRow() {
        WrongRoom x = noRows();
        for (int h = 0; h < 3; h++) {
            Check.answered(x, "firstOf(" + h + ")", x.firstOf(h), -2);
        }
    }

    private static void firstOfRefused() {
        WrongRoom x = noRows();
        for (int h : NO_HOUSES) {
            Check.refused(x, "firstOf(" + h + ")", x.firstOf(h), 1);
        }
    }

    private static void fewestLeft() {
        String text = Check.TWO + ";" + Check.house("c", 4, 0, "x") + ";" + Check.house("d", 2, 0, "x");
        WrongRoom y = Check.town(text + ";sign a y");
        Check.due("fits()", y.fits(), 3);
        Check.answered(y, "ask(), not the sure one", y.ask(), 1);
        Check.due("askLeaves()", y.askLeaves(), 1);
        WrongRoom last = Check.town(text + ";sign b x;noise a 3;noise c 3");
        Check.due("fits() of the last", last.fits(), 3);
        Check.due("could(0) of the last", last.could(0), 0b0110);
        Check.due("could(3) of the last", last.could(3), 0b0111);
        Check.answered(last, "ask() of the last", last.ask(), 3);
        Check.answered(last, "askLeaves() of the last", last.askLeaves(), 1);
    }

    private static void notKnownAlone() {
        WrongRoom k = Check.town(Check.houses(5) + Check.wrongs("b...."));
        Check.answered(k, "ask()", k.ask(), 1);
        WrongRoom l = Check.town(Check.houses(5) + Check.wrongs("bc..."));
        Check.answered(l, "ask() of the third", l.ask(), 2);
        WrongRoom m = Check.town(Check.houses(7) + Check.wrongs("bcdefg."));
        Check.answered(m, "ask() of the last", m.ask(), 6);
        Check.answered(m, "askLeaves() of the last", m.askLeaves(), 1);
    }

    private static void firstToAsk() {
        for (int n = 2; n <= 7; n++) {
            Check.due("ask() of " + n, Check.town(Check.houses(n)).ask(), 0);
        }
    }

    private static void askAllKnown() {
        WrongRoom x = Check.town(Check.houses(3) + Check.wrongs("bca"));
        Check.due("fits()", x.fits(), 1);
        Check.answered(x, "ask()", x.ask(), -2);
        Check.answered(x, "askLeaves()", x.askLeaves(), -2);
    }

    private static void askWithoutRow() {
        WrongRoom x = noRows();
        Check.answered(x, "ask()", x.ask(), -2);
        Check.answered(x, "askLeaves()", x.askLeaves(), -2);
    }

    private static void askWithoutTown() {
        WrongRoom x = new WrongRoom();
        Check.refused(x, "ask()", x.ask(), 1);
        Check.refused(x, "askLeaves()", x.askLeaves(), 1);
    }

    private static void leftAtMost() {
        int[] left = {1, 1, 3, 11, 53, 309};
        for (int n = 2; n <= 7; n++) {
            WrongRoom x = Check.town(Check.houses(n));
            Check.answered(x, "askLeaves() of " + n, x.askLeaves(), left[n - 2]);
        }
        WrongRoom most = Check.town(Check.houses(4) + Check.wrongs("b..."));
        Check.due("fits()", most.fits(), 3);
        Check.due("could(1)", most.could(1), 0b1101);
        Check.answered(most, "askLeaves()", most.askLeaves(), 1);
    }
}
