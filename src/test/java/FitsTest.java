/** Promises 19 to 24: fits, could, surely, firstOf, ask, askLeaves. */
final class FitsTest {
    private FitsTest() {
    }

    public static void main(String[] args) {
        nothingTold();
        knownRooms();
        signsAndNoises();
        noRows();
        ask();
        anotherTown();
        Check.end();
    }

    private static void nothingTold() {
        int[] rows = {1, 2, 9, 44, 265, 1854};
        for (int n = 2; n <= 7; n++) {
            WrongRoom x = Check.town(Check.houses(n));
            Check.due("fits() of " + n, x.fits(), rows[n - 2]);
            Check.due("could(0) of " + n, x.could(0), (1 << n) - 2);
            Check.due("firstOf(0) of " + n, x.firstOf(0), 1);
            Check.due("surely(0) of " + n, x.surely(0), n == 2 ? 1 : -2);
        }
        WrongRoom three = Check.town(Check.houses(3));
        Check.due("firstOf(1)", three.firstOf(1), 2);
        Check.due("firstOf(2)", three.firstOf(2), 0);
        WrongRoom four = Check.town(Check.houses(4));
        Check.due("firstOf(1) of four", four.firstOf(1), 0);
        Check.due("firstOf(2) of four", four.firstOf(2), 3);
    }

    private static void knownRooms() {
        WrongRoom x = Check.town(Check.houses(4) + Check.wrongs("b.d."));
        Check.due("fits()", x.fits(), 2);
        Check.due("could(0)", x.could(0), 2);
        Check.due("surely(0)", x.surely(0), 1);
        Check.due("firstOf(0)", x.firstOf(0), 1);
        Check.due("could(1)", x.could(1), 0b0101);
        Check.due("firstOf(1)", x.firstOf(1), 0);
        Check.due("surely(1)", x.surely(1), -2);
        x.exchange(0, 2);
        Check.due("could(0) NOW", x.could(0), 8);
        Check.due("surely(2) NOW", x.surely(2), 1);
        Check.due("firstOf(0) NOW", x.firstOf(0), 3);
        Check.due("fits() NOW", x.fits(), 2);
        WrongRoom all = Check.town(Check.houses(3) + Check.wrongs("bca") + ";sign a y;noise b 9");
        Check.due("fits(), signs of known rooms say nothing", all.fits(), 1);
        Check.due("could(0)", all.could(0), 2);
        Check.due("ask()", all.ask(), -2);
        Check.due("askLeaves()", all.askLeaves(), -2);
        WrongRoom own = Check.town(Check.houses(3) + Check.wrongs("ba."));
        Check.due("fits(), it would be its own", own.fits(), 0);
    }

    private static void signsAndNoises() {
        String text = Check.TWO + ";" + Check.house("c", 4, 0, "x") + ";" + Check.house("d", 2, 0, "y");
        WrongRoom x = Check.town(text + ";sign a y;noise c 3;noise c 5");
        Check.due("could(0)", x.could(0), 0b1000);
        Check.due("could(2)", x.could(2), 0b0010);
        Check.due("could(1)", x.could(1), 0b0101);
        Check.due("surely(2), so many rooms are enough", x.surely(2), 1);
        Check.due("fits()", x.fits(), 2);
        WrongRoom y = Check.town(text + ";noise a 4");
        Check.due("could(0) by a noise", y.could(0), 0b0110);
    }

    private static void noRows() {
        WrongRoom x = Check.town(Check.houses(3) + Check.wrongs("b..") + ";sign b y");
        Check.due("fits()", x.fits(), 0);
        Check.due("could(0)", x.could(0), 0);
        Check.due("could(1)", x.could(1), 0);
        Check.due("surely(0)", x.surely(0), -2);
        Check.due("surely(1)", x.surely(1), -2);
        Check.due("firstOf(0)", x.firstOf(0), -2);
        Check.due("firstOf(1)", x.firstOf(1), -2);
        Check.due("ask()", x.ask(), -2);
        Check.due("askLeaves()", x.askLeaves(), -2);
        Check.due("trouble()", x.trouble(), 0);
        Check.refused(x, "could(3)", x.could(3), 1);
        Check.refused(x, "surely(-1)", x.surely(-1), 1);
        Check.refused(x, "firstOf(3)", x.firstOf(3), 1);
        WrongRoom two = Check.town(Check.TWO + ";sign a x;sign a y");
        Check.due("fits() by two smells", two.fits(), 0);
    }

    private static void ask() {
        WrongRoom x = Check.town(Check.houses(4) + ";noise d 1");
        Check.due("ask(), the first of like ones", x.ask(), 0);
        Check.due("askLeaves()", x.askLeaves(), 3);
        String text = Check.TWO + ";" + Check.house("c", 4, 0, "x") + ";" + Check.house("d", 2, 0, "x");
        WrongRoom y = Check.town(text + ";sign a y");
        Check.due("could(0)", y.could(0), 2);
        Check.due("fits()", y.fits(), 3);
        Check.due("ask(), not the sure one", y.ask(), 1);
        Check.due("askLeaves()", y.askLeaves(), 1);
        WrongRoom z = Check.town(Check.houses(2));
        Check.due("ask() of one row", z.ask(), 0);
        Check.due("askLeaves() of one row", z.askLeaves(), 1);
        WrongRoom k = Check.town(Check.houses(5) + Check.wrongs("b...."));
        Check.due("ask() of one not known", k.ask(), 1);
    }

    private static void anotherTown() {
        WrongRoom x = Check.town(Check.houses(4));
        Check.due("fits()", x.fits(), 9);
        Check.tell(x, Check.houses(5));
        Check.due("fits() of another town", x.fits(), 44);
        Check.tell(x, "town");
        Check.due("fits() behind a fault", x.fits(), 44);
    }
}
