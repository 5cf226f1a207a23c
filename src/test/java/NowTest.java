/** Promises 6 to 13: house, open, street, person, candle, candleAt, mutual, judge. */
final class NowTest {
    private NowTest() {
    }

    public static void main(String[] args) {
        house();
        open();
        street();
        person();
        candle();
        mutual();
        judge();
        Check.end();
    }

    private static void house() {
        WrongRoom x = Check.town("town door 1 like 0;house a rooms 9 rent 99 bill 999 smells x"
                + ";house b rooms 1 rent 1 bill 0 smells y;wrong a of b");
        int[][] due = {{9, 99, 999, 1, -2, 0}, {1, 1, 0, -2, 0, 0}};
        for (int h = 0; h < 2; h++) {
            for (int what = 0; what < 6; what++) {
                Check.due("house(" + h + ", " + what + ")", x.house(h, what), due[h][what]);
                Check.due("trouble()", x.trouble(), 0);
            }
        }
        x.shut(1, true);
        Check.due("house(1, 5)", x.house(1, 5), 1);
        Check.due("house(0, 5)", x.house(0, 5), 0);
        Check.refused(x, "house(-1, 0)", x.house(-1, 0), 1);
        Check.refused(x, "house(2, 0)", x.house(2, 0), 1);
        Check.refused(x, "house(0, -1)", x.house(0, -1), 1);
        Check.refused(x, "house(0, 6)", x.house(0, 6), 1);
        Check.refused(x, "house(MIN, MAX)", x.house(Integer.MIN_VALUE, Integer.MAX_VALUE), 1);
    }

    private static void open() {
        WrongRoom x = Check.town(Check.houses(4) + Check.wrongs("bcd.")
                + ";open a from 8 to 9;open b from 23 to 23;open d from 0 to 23");
        int[][] due = {{0, 479, 0}, {0, 480, 1}, {0, 599, 1}, {0, 600, 0}, {1, 1379, 0}, {1, 1380, 1}, {1, 1439, 1},
            {1, 0, 0}, {2, 0, 1}, {2, 1439, 1}, {3, 0, 0}, {3, 700, 0}};
        for (int[] d : due) {
            Check.due("open(" + d[0] + ", " + d[1] + ")", x.open(d[0], d[1]), d[2]);
        }
        x.shut(2, true);
        Check.due("open(2, 0), shut", x.open(2, 0), 0);
        x.shut(2, false);
        Check.due("open(2, 0), not shut", x.open(2, 0), 1);
        Check.refused(x, "open(0, -1)", x.open(0, -1), 2);
        Check.refused(x, "open(0, 1440)", x.open(0, 1440), 2);
        Check.refused(x, "open(4, 0)", x.open(4, 0), 1);
        Check.refused(x, "open(4, 1440)", x.open(4, 1440), 1);
    }

    private static void street() {
        WrongRoom x = Check.town(Check.houses(3) + ";street b a minutes 99");
        Check.due("street(0, 1)", x.street(0, 1), 99);
        Check.due("street(1, 0)", x.street(1, 0), 99);
        Check.due("street(0, 2)", x.street(0, 2), -2);
        Check.due("trouble()", x.trouble(), 0);
        Check.refused(x, "street(2, 2)", x.street(2, 2), 1);
        Check.refused(x, "street(0, 3)", x.street(0, 3), 1);
        Check.refused(x, "street(-1, 0)", x.street(-1, 0), 1);
    }

    private static void person() {
        WrongRoom x = Check.town(Check.houses(3) + ";street b c minutes 7;person p home a at b;person q home c at c");
        int[][] due = {{0, 1, 0}, {2, 2, 0}};
        for (int p = 0; p < 2; p++) {
            for (int what = 0; what < 3; what++) {
                Check.due("person(" + p + ", " + what + ")", x.person(p, what), due[p][what]);
            }
        }
        x.go(0, 2);
        Check.due("person(0, 0) gone", x.person(0, 0), 0);
        Check.due("person(0, 1) gone", x.person(0, 1), 2);
        Check.due("person(0, 2) gone", x.person(0, 2), 7);
        Check.due("person(1, 2) has his own minute", x.person(1, 2), 0);
        Check.refused(x, "person(2, 0)", x.person(2, 0), 1);
        Check.refused(x, "person(-1, 0)", x.person(-1, 0), 1);
        Check.refused(x, "person(0, 3)", x.person(0, 3), 1);
        Check.refused(x, "person(0, -1)", x.person(0, -1), 1);
    }

    private static void candle() {
        WrongRoom x = Check.town(Check.houses(7) + Check.wrongs("bcaedg.") + ";open a from 3 to 3");
        x.shut(1, true);
        int[] due = {3, 3, 3, 2, 2, -2, -2};
        for (int h = 0; h < 7; h++) {
            Check.due("candle(" + h + ")", x.candle(h), due[h]);
        }
        Check.refused(x, "candle(7)", x.candle(7), 1);
        Check.refused(x, "candle(-1)", x.candle(-1), 1);
        for (int i = 0; i < 10; i++) {
            Check.due("candleAt(0, " + i + ")", x.candleAt(0, i), i % 3);
        }
        Check.due("candleAt(5, 0)", x.candleAt(5, 0), 5);
        Check.due("candleAt(5, 1)", x.candleAt(5, 1), 6);
        Check.due("candleAt(5, 2)", x.candleAt(5, 2), -2);
        Check.due("candleAt(5, 9)", x.candleAt(5, 9), -2);
        Check.due("trouble()", x.trouble(), 0);
        Check.refused(x, "candleAt(0, -1)", x.candleAt(0, -1), 2);
        Check.refused(x, "candleAt(0, 10)", x.candleAt(0, 10), 2);
        Check.refused(x, "candleAt(7, 10)", x.candleAt(7, 10), 1);
        WrongRoom all = Check.town(Check.houses(7) + Check.wrongs("bcdefga"));
        Check.due("candle(0) by seven", all.candle(0), 7);
        Check.due("candle(6) by seven", all.candle(6), 7);
    }

    private static void mutual() {
        WrongRoom x = Check.town(Check.houses(7) + Check.wrongs("bafed.."));
        Check.due("mutual()", x.mutual(), 0b0011011);
        WrongRoom y = Check.town(Check.houses(7) + Check.wrongs("gedcb.a"));
        Check.due("mutual() of three pairs", y.mutual(), 0b1011111);
        WrongRoom z = Check.town(Check.houses(3) + Check.wrongs("bca"));
        Check.due("mutual() of a round", z.mutual(), 0);
    }

    private static void judge() {
        String text = Check.TWO + ";" + Check.house("c", 1, 0, "y") + ";wrong a of b;wrong b of c";
        Check.due("judge() without signs", Check.town(text + ";noise a 9").judge(), -2);
        Check.due("judge() of good ones", Check.town(text + ";sign a y;sign b y").judge(), -2);
        WrongRoom x = Check.town(text + ";noise a 9;sign a y;noise b 9;sign b x;sign a z");
        Check.due("judge() by numbers of signs", x.judge(), 1);
        WrongRoom y = Check.town(text + ";sign a y;sign a y;sign c x");
        Check.due("judge() of a room that isn't known", y.judge(), 2);
        Check.due("trouble()", y.trouble(), 0);
        String three = Check.TWO + ";" + Check.house("c", 1, 0, "y") + ";" + Check.house("d", 1, 0, "x");
        WrongRoom z = Check.town(three + ";wrong a of b;wrong c of d;sign a y");
        Check.due("judge() as told", z.judge(), -2);
        z.exchange(0, 2);
        Check.due("judge() NOW", z.judge(), 0);
    }
}
