/** Promises 6 to 13: house, open, street, person, candle, candleAt, mutual, judge. */
final class NowTest {
    private static final int MIN = Integer.MIN_VALUE;
    private static final int MAX = Integer.MAX_VALUE;

    private NowTest() {
    }

    public static void main(String[] args) {
        houses();
        doors();
        streets();
        people();
        candles();
        Check.promise(12, "Houses that are EACH OTHER'S with some house, as bits.", NowTest::mutual);
        Check.promise(12, "TWO houses are EACH OTHER'S if the wrong room of each is of the other one.", NowTest::notMutual);
        Check.promise(12, "NONE: 1 (no TOWN)", NowTest::mutualWithoutTown);
        judge();
        Check.end();
    }

    private static void houses() {
        Check.promise(6, "Of a house 0 rooms, 1 rent, 2 bill", NowTest::roomsRentBill);
        Check.promise(6, "3 the house of which its wrong room is NOW (-2 it isn't known)", NowTest::ofWhich);
        Check.promise(6, "THE WRONG ROOM of a house is of another house, as told, or it isn't known;", NowTest::asTold);
        Check.promise(6, "4 the house whose wrong room is of it NOW (-2 none is known)", NowTest::whose);
        Check.promise(6, "of one house there is one wrong room at most.", NowTest::oneAtMost);
        Check.promise(6, "5 1 if its DOOR is SHUT.", NowTest::doorShut);
        Check.promise(6, "NONE: 1", NowTest::noSuchHouse);
        Check.promise(6, "NONE: 1", NowTest::noSuchWhat);
    }

    private static void doors() {
        Check.promise(7, "Whether one can go through a DOOR at a minute (0 .. 1,439): 1, 0.", NowTest::firstAndLastMinute);
        Check.promise(7, "The DOOR can be gone into at every minute of the hours told, the first and the last one too",
                NowTest::everyMinute);
        Check.promise(7, "(always, if none are told)", NowTest::noHours);
        Check.promise(7, "not if it is SHUT", NowTest::shutDoor);
        Check.promise(7, "nor if it isn't known whose room it is", NowTest::unknownDoor);
        Check.promise(7, "NONE: 1; 2.", NowTest::openRefused);
    }

    private static void streets() {
        Check.promise(8, "Minutes of the street between two houses", NowTest::street);
        Check.promise(8, "-2 there is none", NowTest::noStreet);
        Check.promise(8, "NONE: 1 (unlike).", NowTest::streetRefused);
    }

    private static void people() {
        Check.promise(9, "Of a person 0 home, 1 the house where he is NOW, 2 his minutes so far.", NowTest::person);
        Check.promise(9, "Each person has his own minute, 0 at first.", NowTest::ownMinute);
        Check.promise(9, "NONE: 1.", NowTest::noSuchPerson);
        Check.promise(9, "NONE: 1.", NowTest::noSuchWhatOfPerson);
    }

    private static void candles() {
        Check.promise(10, "A CANDLE: how many DOORS", NowTest::candle);
        Check.promise(10, "A CANDLE: from a house by its DOOR, and on by that one's, at whatever hour, SHUT or not:"
                + " how many till he is home again.", NowTest::candleThroughShutDoors);
        Check.promise(10, "-2 he never comes home", NowTest::neverHome);
        Check.promise(10, "NONE: 1.", NowTest::candleRefused);
        Check.promise(11, "The house he is in behind i DOORS (0 .. 9)", NowTest::behindDoors);
        Check.promise(11, "-2 he can't go so far", NowTest::notSoFar);
        Check.promise(11, "NONE: 1; 2.", NowTest::candleAtRefused);
    }

    private static void judge() {
        Check.promise(13, "The first sign (by numbers of signs alone), as told", NowTest::firstSign);
        Check.promise(13, "that the house of which that wrong room is NOW doesn't smell of", NowTest::judgedNow);
        Check.promise(13, "(nor if it isn't known)", NowTest::judgedUnknown);
        Check.promise(13, "; -2.", NowTest::nothingJudged);
        Check.promise(13, "NONE: 1 (no TOWN)", NowTest::judgeWithoutTown);
    }

    private static void roomsRentBill() {
        WrongRoom x = Check.town("town door 1 like 0;house a rooms 9 rent 99 bill 999 smells x"
                + ";house b rooms 1 rent 1 bill 0 smells y;wrong a of b");
        int[][] due = {{9, 99, 999}, {1, 1, 0}};
        for (int h = 0; h < 2; h++) {
            for (int what = 0; what < 3; what++) {
                Check.answered(x, "house(" + h + ", " + what + ")", x.house(h, what), due[h][what]);
            }
        }
    }

    private static void ofWhich() {
        WrongRoom x = Check.town(Check.houses(7) + Check.wrongs("gcda..."));
        int[] due = {6, 2, 3, 0, -2, -2, -2};
        for (int h = 0; h < 7; h++) {
            Check.answered(x, "house(" + h + ", 3)", x.house(h, 3), due[h]);
        }
        x.exchange(0, 2);
        Check.due("house(0, 3) NOW", x.house(0, 3), 3);
        Check.due("house(2, 3) NOW", x.house(2, 3), 6);
    }

    private static void asTold() {
        WrongRoom x = Check.town(Check.houses(3));
        for (int h = 0; h < 3; h++) {
            Check.answered(x, "house(" + h + ", 3), nothing told", x.house(h, 3), -2);
            Check.answered(x, "house(" + h + ", 4), nothing told", x.house(h, 4), -2);
        }
        WrongRoom y = Check.town(Check.houses(3) + ";wrong c of a");
        Check.due("house(2, 3)", y.house(2, 3), 0);
        Check.due("house(0, 3)", y.house(0, 3), -2);
    }

    private static void whose() {
        WrongRoom x = Check.town(Check.houses(7) + Check.wrongs("gcda..."));
        int[] due = {3, -2, 1, 2, -2, -2, 0};
        for (int h = 0; h < 7; h++) {
            Check.answered(x, "house(" + h + ", 4)", x.house(h, 4), due[h]);
        }
        x.exchange(0, 2);
        Check.due("house(6, 4) NOW", x.house(6, 4), 2);
        Check.due("house(3, 4) NOW", x.house(3, 4), 0);
    }

    private static void oneAtMost() {
        WrongRoom x = Check.town(Check.houses(7) + Check.wrongs("bcdefga"));
        x.exchange(0, 2);
        x.exchange(1, 5);
        x.exchange(6, 3);
        int bits = 0;
        for (int h = 0; h < 7; h++) {
            bits |= 1 << x.house(h, 3);
            Check.due("house(house(" + h + ", 3), 4)", x.house(x.house(h, 3), 4), h);
            Check.due("house(" + h + ", 3) is another one", x.house(h, 3) != h, true);
        }
        Check.due("all are of unlike houses", bits, 127);
    }

    private static void doorShut() {
        WrongRoom x = Check.town(Check.houses(7) + Check.wrongs("b......"));
        for (int h = 0; h < 7; h += 3) {
            x.shut(h, true);
        }
        for (int h = 0; h < 7; h++) {
            Check.answered(x, "house(" + h + ", 5)", x.house(h, 5), h % 3 == 0 ? 1 : 0);
        }
        x.shut(6, false);
        Check.due("house(6, 5), opened", x.house(6, 5), 0);
    }

    private static void noSuchHouse() {
        for (int n = 2; n <= 7; n++) {
            WrongRoom x = Check.town(Check.houses(n));
            Check.answered(x, "house(" + (n - 1) + ", 0)", x.house(n - 1, 0), 3);
            Check.refused(x, "house(" + n + ", 0)", x.house(n, 0), 1);
        }
        WrongRoom x = Check.town(Check.houses(2));
        for (int h : new int[] {-1, MIN, MAX, 7, 32}) {
            Check.refused(x, "house(" + h + ", 3)", x.house(h, 3), 1);
            Check.refused(x, "house(" + h + ", 5)", x.house(h, 5), 1);
        }
    }

    private static void noSuchWhat() {
        WrongRoom x = Check.town(Check.houses(2));
        for (int what : new int[] {-1, 6, 7, MIN, MAX}) {
            Check.refused(x, "house(0, " + what + ")", x.house(0, what), 1);
            Check.refused(x, "house(2, " + what + ")", x.house(2, what), 1);
        }
    }

    private static void firstAndLastMinute() {
        WrongRoom x = Check.town(Check.houses(2) + Check.wrongs("b.") + ";open a from 0 to 23");
        Check.answered(x, "open(0, 0)", x.open(0, 0), 1);
        Check.answered(x, "open(0, 1439)", x.open(0, 1439), 1);
        Check.answered(x, "open(1, 0)", x.open(1, 0), 0);
        Check.answered(x, "open(1, 1439)", x.open(1, 1439), 0);
    }

    private static void everyMinute() {
        WrongRoom x = Check.town(Check.houses(3) + Check.wrongs("bca")
                + ";open a from 8 to 9;open b from 23 to 23;open c from 0 to 0");
        for (int minute = 0; minute < 1440; minute++) {
            int hour = minute / 60;
            Check.due("open(0, " + minute + ")", x.open(0, minute), hour == 8 || hour == 9 ? 1 : 0);
            Check.due("open(1, " + minute + ")", x.open(1, minute), hour == 23 ? 1 : 0);
            Check.due("open(2, " + minute + ")", x.open(2, minute), hour == 0 ? 1 : 0);
        }
        WrongRoom y = Check.town(Check.houses(4) + Check.wrongs("bcda") + ";open a from 8 to 9");
        y.exchange(0, 2);
        Check.due("open(0, 0), hours stay with the DOOR", y.open(0, 0), 0);
        Check.due("open(2, 0), hours stay with the DOOR", y.open(2, 0), 1);
    }

    private static void noHours() {
        WrongRoom x = Check.town(Check.houses(2) + Check.wrongs("b.") + ";open b from 3 to 4");
        for (int minute = 0; minute < 1440; minute++) {
            Check.due("open(0, " + minute + ")", x.open(0, minute), 1);
        }
    }

    private static void shutDoor() {
        WrongRoom x = Check.town(Check.houses(2) + Check.wrongs("ba") + ";open a from 8 to 9");
        x.shut(0, true);
        x.shut(1, true);
        Check.answered(x, "open(0, 500)", x.open(0, 500), 0);
        Check.answered(x, "open(1, 0)", x.open(1, 0), 0);
        x.shut(0, false);
        Check.answered(x, "open(0, 500), not SHUT", x.open(0, 500), 1);
        Check.answered(x, "open(0, 0), not SHUT", x.open(0, 0), 0);
    }

    private static void unknownDoor() {
        WrongRoom x = Check.town(Check.houses(3) + Check.wrongs("b..") + ";open b from 0 to 23");
        Check.answered(x, "open(1, 700)", x.open(1, 700), 0);
        Check.answered(x, "open(2, 700)", x.open(2, 700), 0);
    }

    private static void openRefused() {
        WrongRoom x = Check.town(Check.houses(4) + Check.wrongs("bcd."));
        for (int minute : new int[] {-1, 1440, MIN, MAX}) {
            Check.refused(x, "open(0, " + minute + ")", x.open(0, minute), 2);
            Check.refused(x, "open(3, " + minute + ")", x.open(3, minute), 2);
            Check.refused(x, "open(4, " + minute + ")", x.open(4, minute), 1);
        }
        for (int h : new int[] {-1, 4, MIN, MAX}) {
            Check.refused(x, "open(" + h + ", 0)", x.open(h, 0), 1);
        }
    }

    private static void street() {
        WrongRoom x = Check.town(Check.houses(7) + ";street b a minutes 99;street a g minutes 1");
        Check.answered(x, "street(0, 1)", x.street(0, 1), 99);
        Check.answered(x, "street(1, 0)", x.street(1, 0), 99);
        Check.answered(x, "street(0, 6)", x.street(0, 6), 1);
        Check.answered(x, "street(6, 0)", x.street(6, 0), 1);
    }

    private static void noStreet() {
        WrongRoom x = Check.town(Check.houses(3) + Check.wrongs("c..") + ";street b a minutes 9;street b c minutes 9");
        Check.answered(x, "street(0, 2)", x.street(0, 2), -2);
        Check.answered(x, "street(2, 0)", x.street(2, 0), -2);
    }

    private static void streetRefused() {
        WrongRoom x = Check.town(Check.houses(3) + ";street b a minutes 9");
        for (int h = 0; h < 3; h++) {
            Check.refused(x, "street(" + h + ", " + h + ")", x.street(h, h), 1);
        }
        for (int h : new int[] {-1, 3, 7, MIN, MAX}) {
            Check.refused(x, "street(0, " + h + ")", x.street(0, h), 1);
            Check.refused(x, "street(" + h + ", 0)", x.street(h, 0), 1);
            Check.refused(x, "street(" + h + ", " + h + ")", x.street(h, h), 1);
        }
    }

    private static void person() {
        WrongRoom x = Check.town(Check.houses(3) + ";street b c minutes 7;person p home a at b;person q home c at c");
        int[][] due = {{0, 1, 0}, {2, 2, 0}};
        for (int p = 0; p < 2; p++) {
            for (int what = 0; what < 3; what++) {
                Check.answered(x, "person(" + p + ", " + what + ")", x.person(p, what), due[p][what]);
            }
        }
        x.go(0, 2);
        Check.due("person(0, 0) gone", x.person(0, 0), 0);
        Check.due("person(0, 1) gone", x.person(0, 1), 2);
        Check.due("person(0, 2) gone", x.person(0, 2), 7);
    }

    private static void ownMinute() {
        WrongRoom x = Check.town(Check.houses(2) + ";person p home a at b;person q home a at a;person r home a at a"
                + ";person s home a at a");
        x.waits(3, 999);
        x.waits(3, 999);
        x.waits(1, 7);
        int[] due = {0, 7, 0, 1998};
        for (int p = 0; p < 4; p++) {
            Check.due("person(" + p + ", 2)", x.person(p, 2), due[p]);
        }
    }

    private static void noSuchPerson() {
        WrongRoom x = Check.town(Check.houses(3) + ";person p home a at b;person q home c at c");
        for (int p : new int[] {-1, 2, 3, 4, MIN, MAX}) {
            Check.refused(x, "person(" + p + ", 0)", x.person(p, 0), 1);
        }
        WrongRoom nobody = Check.town(Check.houses(3));
        Check.refused(nobody, "person(0, 0) of nobody", nobody.person(0, 0), 1);
    }

    private static void noSuchWhatOfPerson() {
        WrongRoom x = Check.town(Check.houses(3) + ";person p home a at b");
        for (int what : new int[] {-1, 3, MIN, MAX}) {
            Check.refused(x, "person(0, " + what + ")", x.person(0, what), 1);
        }
    }

    private static void candle() {
        String letters = "bcdefg";
        for (int n = 2; n <= 7; n++) {
            WrongRoom x = Check.town(Check.houses(n) + Check.wrongs(letters.substring(0, n - 1) + "a"));
            for (int h = 0; h < n; h++) {
                Check.answered(x, "candle(" + h + ") of " + n, x.candle(h), n);
            }
        }
        WrongRoom y = Check.town(Check.houses(7) + Check.wrongs("bcaedg."));
        Check.due("candle(0)", y.candle(0), 3);
        Check.due("candle(4)", y.candle(4), 2);
    }

    private static void candleThroughShutDoors() {
        WrongRoom x = Check.town(Check.houses(4) + Check.wrongs("bcda") + ";open a from 3 to 3");
        for (int h = 0; h < 4; h++) {
            x.shut(h, true);
        }
        Check.answered(x, "candle(0)", x.candle(0), 4);
        Check.answered(x, "candleAt(0, 3)", x.candleAt(0, 3), 3);
        x.exchange(0, 2);
        Check.answered(x, "candle(0) NOW", x.candle(0), 2);
    }

    private static void neverHome() {
        WrongRoom x = Check.town(Check.houses(7) + Check.wrongs("bcdefg."));
        for (int h = 0; h < 7; h++) {
            Check.answered(x, "candle(" + h + ")", x.candle(h), -2);
        }
    }

    private static void candleRefused() {
        WrongRoom x = Check.town(Check.houses(3) + Check.wrongs("ba."));
        for (int h : new int[] {-1, 3, 7, MIN, MAX}) {
            Check.refused(x, "candle(" + h + ")", x.candle(h), 1);
        }
    }

    private static void behindDoors() {
        WrongRoom x = Check.town(Check.houses(7) + Check.wrongs("bcaedg."));
        for (int i = 0; i <= 9; i++) {
            Check.answered(x, "candleAt(0, " + i + ")", x.candleAt(0, i), i % 3);
            Check.answered(x, "candleAt(3, " + i + ")", x.candleAt(3, i), 3 + i % 2);
        }
        Check.answered(x, "candleAt(6, 0), not known", x.candleAt(6, 0), 6);
    }

    private static void notSoFar() {
        WrongRoom x = Check.town(Check.houses(7) + Check.wrongs("bcdefg."));
        for (int i = 0; i <= 9; i++) {
            Check.answered(x, "candleAt(0, " + i + ")", x.candleAt(0, i), i <= 6 ? i : -2);
        }
        Check.answered(x, "candleAt(6, 1)", x.candleAt(6, 1), -2);
    }

    private static void candleAtRefused() {
        WrongRoom x = Check.town(Check.houses(3) + Check.wrongs("ba."));
        for (int i : new int[] {-1, 10, MIN, MAX}) {
            Check.refused(x, "candleAt(0, " + i + ")", x.candleAt(0, i), 2);
            Check.refused(x, "candleAt(2, " + i + ")", x.candleAt(2, i), 2);
            Check.refused(x, "candleAt(3, " + i + ")", x.candleAt(3, i), 1);
        }
        for (int h : new int[] {-1, 3, MIN, MAX}) {
            Check.refused(x, "candleAt(" + h + ", 0)", x.candleAt(h, 0), 1);
        }
    }

    private static void mutual() {
        WrongRoom x = Check.town(Check.houses(7) + Check.wrongs("bafed.."));
        Check.answered(x, "mutual()", x.mutual(), 0b0011011);
        WrongRoom y = Check.town(Check.houses(7) + Check.wrongs("gedcb.a"));
        Check.answered(y, "mutual() of three pairs", y.mutual(), 0b1011111);
        y.exchange(0, 1);
        Check.answered(y, "mutual() NOW", y.mutual(), 0b0001100);
        Check.due("mutual() of two", Check.town(Check.houses(2) + Check.wrongs("ba")).mutual(), 3);
        WrongRoom shut = Check.town(Check.houses(7) + Check.wrongs("badcfe."));
        for (int h = 0; h < 7; h++) {
            shut.shut(h, true);
            Check.answered(shut, "mutual(), SHUT or not", shut.mutual(), 0b0111111);
        }
    }

    private static void notMutual() {
        Check.due("mutual() of a round", Check.town(Check.houses(3) + Check.wrongs("bca")).mutual(), 0);
        Check.due("mutual() of one alone", Check.town(Check.houses(2) + Check.wrongs("b.")).mutual(), 0);
        Check.due("mutual() of none", Check.town(Check.houses(7)).mutual(), 0);
        Check.due("mutual() of a row", Check.town(Check.houses(7) + Check.wrongs("bcdefg.")).mutual(), 0);
    }

    private static void mutualWithoutTown() {
        WrongRoom x = new WrongRoom();
        Check.refused(x, "mutual()", x.mutual(), 1);
    }

    private static final String THREE = Check.TWO + ";" + Check.house("c", 1, 0, "y") + ";wrong a of b;wrong b of c";

    private static void firstSign() {
        WrongRoom x = Check.town(THREE + ";noise a 9;sign a y;noise b 9;sign b x;sign a z");
        Check.answered(x, "judge()", x.judge(), 1);
        WrongRoom last = Check.town(THREE + ";sign a y".repeat(7) + ";sign b x");
        Check.answered(last, "judge() of the eighth", last.judge(), 7);
        WrongRoom first = Check.town(THREE + ";sign b x;sign a z");
        Check.answered(first, "judge() of the first", first.judge(), 0);
    }

    private static void judgedNow() {
        WrongRoom z = Check.town(Check.TWO + ";" + Check.house("c", 1, 0, "y") + ";" + Check.house("d", 1, 0, "x")
                + ";wrong a of b;wrong c of d;sign a y");
        Check.answered(z, "judge() as told", z.judge(), -2);
        z.exchange(0, 2);
        Check.answered(z, "judge() NOW", z.judge(), 0);
        z.undo();
        Check.answered(z, "judge() undone", z.judge(), -2);
    }

    private static void judgedUnknown() {
        WrongRoom x = Check.town(THREE + ";sign a y;sign a y;sign c x");
        Check.answered(x, "judge()", x.judge(), 2);
        WrongRoom y = Check.town(Check.houses(2) + ";sign a x");
        Check.answered(y, "judge() of one that could be", y.judge(), 0);
    }

    private static void nothingJudged() {
        WrongRoom none = Check.town(THREE + ";noise a 9");
        Check.answered(none, "judge() without signs", none.judge(), -2);
        WrongRoom good = Check.town(THREE + ";sign a y;sign b y");
        Check.answered(good, "judge() of good ones", good.judge(), -2);
    }

    private static void judgeWithoutTown() {
        WrongRoom x = new WrongRoom();
        Check.refused(x, "judge()", x.judge(), 1);
    }
}
