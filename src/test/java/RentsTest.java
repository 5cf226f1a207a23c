/** Promises 32 to 34: gain, rests, rest. */
final class RentsTest {
    private static final int MIN = Integer.MIN_VALUE;
    private static final int MAX = Integer.MAX_VALUE;
    private static final int[] NO_HOUSES = {-1, 2, 7, MIN, MAX};

    private RentsTest() {
    }

    public static void main(String[] args) {
        gains();
        worths();
        rests();
        Check.end();
    }

    private static void gains() {
        Check.promise(32, "What the one (or other, the other one) has by both's tens (0 .. 9).", RentsTest::bothGains);
        Check.promise(32, "RENTS of two owners, 0 .. 9 tens each: tenants, as many as both houses have rooms.",
                RentsTest::tenants);
        Check.promise(32, "An owner has his tens for each tenant.", RentsTest::tensForEach);
        Check.promise(32, "0 .. 9 tens each", RentsTest::noTensAndMost);
        Check.promise(32, "half of the tenants (downwards) take each", RentsTest::halfDownwards);
        Check.promise(32, "else all take the one WORTH more.", RentsTest::allTakeOne);
        Check.promise(32, "NONE: 1 (unlike); 2.", RentsTest::gainOfNoHouses);
        Check.promise(32, "NONE: 1 (unlike); 2.", RentsTest::gainOfNoTens);
    }

    private static void worths() {
        Check.promise(32, "WORTH of a house: its rooms, 2 more if it is EACH OTHER'S with some house, less its tens.",
                RentsTest::worth);
        Check.promise(32, "2 more if it is EACH OTHER'S with some house", RentsTest::mutualWithAThird);
        Check.promise(32, "2 more if it is EACH OTHER'S with some house", RentsTest::mutualNow);
        Check.promise(32, "If both are WORTH the same, or not more apart than like", RentsTest::justLike);
        Check.promise(32, "or not more apart than like", RentsTest::leastAndMostLike);
    }

    private static void rests() {
        Check.promise(33, "How many RESTS.", RentsTest::howMany);
        Check.promise(33, "REST: a pair by which neither could have more alone.", RentsTest::neitherHasMore);
        Check.promise(33, "NONE: 1 (unlike).", RentsTest::restsRefused);
        Check.promise(34, "The first, by the one's tens, then the other one's: 10 times and", RentsTest::firstRest);
        Check.promise(34, "; -2.", RentsTest::noRest);
        Check.promise(34, "NONE: 1 (unlike).", RentsTest::restRefused);
    }

    private static String two(int like, int rooms, int others) {
        return "town door 1 like " + like + ";" + Check.house("a", rooms, 0, "x") + ";"
                + Check.house("b", others, 0, "x");
    }

    private static void gain(WrongRoom x, int tens, int others, int one, int other) {
        String call = "gain(0, " + tens + ", 1, " + others + ", ";
        Check.answered(x, call + "false)", x.gain(0, tens, 1, others, false), one);
        Check.answered(x, call + "true)", x.gain(0, tens, 1, others, true), other);
    }

    private static void bothGains() {
        WrongRoom x = Check.town(two(0, 3, 4));
        gain(x, 2, 3, 2 * 3, 3 * 3);
        for (int tens = 0; tens < 10; tens += 3) {
            for (int others = 0; others < 10; others += 3) {
                Check.due("gain of " + tens + ", " + others + " seen from there", x.gain(1, others, 0, tens, false),
                        x.gain(0, tens, 1, others, true));
                Check.due("gain of " + tens + ", " + others + " seen from here", x.gain(1, others, 0, tens, true),
                        x.gain(0, tens, 1, others, false));
            }
        }
    }

    private static void tenants() {
        gain(Check.town(two(0, 9, 9)), 8, 9, 8 * 18, 0);
        gain(Check.town(two(0, 1, 1)), 1, 0, 0, 0);
        gain(Check.town(two(0, 1, 1)), 2, 1, 0, 2);
        gain(Check.town(two(0, 9, 1)), 1, 1, 10, 0);
    }

    private static void tensForEach() {
        WrongRoom x = Check.town(two(0, 3, 4));
        gain(x, 2, 4, 2 * 7, 0);
        gain(x, 2, 2, 0, 2 * 7);
        gain(x, 7, 9, 7 * 7, 0);
    }

    private static void noTensAndMost() {
        WrongRoom x = Check.town(two(0, 3, 4));
        gain(x, 0, 0, 0, 0);
        gain(x, 9, 9, 0, 63);
        gain(x, 0, 9, 0, 0);
        gain(x, 9, 0, 0, 0);
        gain(x, 8, 9, 8 * 3, 9 * 3);
    }

    private static void halfDownwards() {
        gain(Check.town(two(0, 3, 4)), 2, 3, 2 * 3, 3 * 3);
        gain(Check.town(two(0, 4, 4)), 3, 3, 3 * 4, 3 * 4);
        gain(Check.town(two(1, 1, 2)), 5, 5, 5, 5);
        gain(Check.town(two(0, 1, 1)), 9, 9, 9, 9);
        gain(Check.town(two(0, 9, 8)), 2, 1, 2 * 8, 8);
    }

    private static void allTakeOne() {
        WrongRoom x = Check.town(two(0, 5, 5));
        gain(x, 4, 5, 40, 0);
        gain(x, 5, 4, 0, 40);
        gain(x, 0, 1, 0, 0);
        gain(x, 9, 8, 0, 80);
    }

    private static void gainOfNoHouses() {
        WrongRoom x = Check.town(two(0, 3, 4));
        for (int h : NO_HOUSES) {
            Check.refused(x, "gain(" + h + ", 0, 1, 0, false)", x.gain(h, 0, 1, 0, false), 1);
            Check.refused(x, "gain(0, 0, " + h + ", 0, true)", x.gain(0, 0, h, 0, true), 1);
            Check.refused(x, "gain(0, -1, " + h + ", 10, true)", x.gain(0, -1, h, 10, true), 1);
        }
        Check.refused(x, "gain(0, 0, 0, 0, false)", x.gain(0, 0, 0, 0, false), 1);
        Check.refused(x, "gain(1, 0, 1, 0, true)", x.gain(1, 0, 1, 0, true), 1);
        Check.refused(x, "gain(1, 10, 1, 0, true)", x.gain(1, 10, 1, 0, true), 1);
    }

    private static void gainOfNoTens() {
        WrongRoom x = Check.town(two(0, 3, 4));
        for (int tens : new int[] {-1, 10, MIN, MAX}) {
            Check.refused(x, "gain(0, " + tens + ", 1, 0, false)", x.gain(0, tens, 1, 0, false), 2);
            Check.refused(x, "gain(0, " + tens + ", 1, 0, true)", x.gain(0, tens, 1, 0, true), 2);
            Check.refused(x, "gain(0, 0, 1, " + tens + ", false)", x.gain(0, 0, 1, tens, false), 2);
            Check.refused(x, "gain(0, 0, 1, " + tens + ", true)", x.gain(0, 0, 1, tens, true), 2);
        }
    }

    private static void worth() {
        WrongRoom x = Check.town(two(0, 3, 4) + ";wrong a of b;wrong b of a");
        gain(x, 2, 3, 6, 9);
        WrongRoom one = Check.town(two(0, 3, 4) + ";wrong a of b");
        gain(one, 2, 3, 6, 9);
        gain(one, 2, 2, 0, 14);
    }

    private static void mutualWithAThird() {
        WrongRoom y = Check.town(two(0, 3, 4) + ";house c rooms 1 rent 1 bill 1 smells x;wrong a of c;wrong c of a");
        gain(y, 3, 2, 9, 6);
        gain(y, 2, 2, 14, 0);
        gain(y, 4, 2, 0, 14);
        WrongRoom z = Check.town(two(0, 3, 4) + ";house c rooms 1 rent 1 bill 1 smells x;wrong b of c;wrong c of b");
        gain(z, 2, 5, 6, 15);
        gain(z, 2, 4, 0, 28);
        gain(z, 2, 6, 14, 0);
    }

    private static void mutualNow() {
        WrongRoom x = Check.town(Check.houses(4).replace("a rooms 3", "a rooms 5") + Check.wrongs("bcda"));
        Check.due("gain as told", x.gain(0, 2, 1, 0, false), 2 * 4);
        x.exchange(0, 2);
        Check.due("gain NOW, both are", x.gain(0, 2, 1, 0, false), 2 * 4);
        x.exchange(0, 1);
        Check.due("gain NOW, none is", x.gain(0, 2, 1, 0, false), 2 * 4);
        WrongRoom y = Check.town(Check.houses(5) + Check.wrongs("ba.c."));
        Check.due("gain with one that is", y.gain(0, 2, 3, 0, false), 2 * 3);
        Check.due("gain with one less", y.gain(0, 1, 3, 0, false), 6);
        y.exchange(0, 3);
        Check.due("gain NOW that it is no more", y.gain(0, 2, 3, 0, false), 0);
        y.undo();
        Check.due("gain undone", y.gain(0, 2, 3, 0, false), 2 * 3);
    }

    private static void justLike() {
        WrongRoom x = Check.town(two(2, 3, 4));
        gain(x, 2, 3, 6, 9);
        gain(x, 2, 5, 6, 15);
        gain(x, 2, 6, 14, 0);
        gain(x, 3, 2, 9, 6);
        gain(x, 4, 2, 0, 14);
    }

    private static void leastAndMostLike() {
        WrongRoom none = Check.town(two(0, 5, 5));
        gain(none, 3, 3, 15, 15);
        gain(none, 3, 4, 30, 0);
        WrongRoom most = Check.town(two(9, 5, 5));
        gain(most, 0, 9, 0, 45);
        gain(most, 9, 0, 45, 0);
        WrongRoom apart = Check.town(two(9, 6, 5));
        gain(apart, 1, 9, 5, 45);
        gain(apart, 0, 9, 0, 0);
        gain(apart, 9, 0, 45, 0);
    }

    private static void howMany() {
        Check.due("rests(0, 1) of 3, 5", Check.town(two(0, 3, 5)).rests(0, 1), 3);
        Check.due("rests(1, 0) of 3, 5", Check.town(two(0, 3, 5)).rests(1, 0), 3);
        Check.due("rests(0, 1) of 1, 9", Check.town(two(0, 1, 9)).rests(0, 1), 2);
        Check.due("rests(0, 1) of 9, 9", Check.town(two(0, 9, 9)).rests(0, 1), 3);
        WrongRoom none = Check.town(two(2, 1, 6));
        Check.answered(none, "rests(0, 1) of none", none.rests(0, 1), 0);
        WrongRoom ten = Check.town(two(0, 1, 9) + ";house c rooms 1 rent 1 bill 1 smells x;wrong b of c;wrong c of b");
        Check.answered(ten, "rests(0, 1), whatever the one asks", ten.rests(0, 1), 10);
    }

    private static void neitherHasMore() {
        WrongRoom x = Check.town(two(9, 1, 1));
        Check.answered(x, "rests(0, 1), always like", x.rests(0, 1), 1);
        Check.answered(x, "rest(0, 1), always like", x.rest(0, 1), 99);
        WrongRoom y = Check.town(two(0, 1, 1));
        Check.answered(y, "rest(0, 1), nothing is the most to be had", y.rest(0, 1), 0);
    }

    private static void restsRefused() {
        WrongRoom x = Check.town(two(0, 3, 4));
        Check.refused(x, "rests(0, 0)", x.rests(0, 0), 1);
        Check.refused(x, "rests(1, 1)", x.rests(1, 1), 1);
        for (int h : NO_HOUSES) {
            Check.refused(x, "rests(" + h + ", 0)", x.rests(h, 0), 1);
            Check.refused(x, "rests(0, " + h + ")", x.rests(0, h), 1);
        }
    }

    private static void firstRest() {
        rest(two(0, 3, 5), 1, 10);
        rest(two(0, 1, 9), 7, 70);
        rest(two(0, 1, 2), 1, 10);
        rest(two(0, 9, 9), 0, 0);
        rest(two(9, 9, 9), 99, 99);
        rest(two(0, 3, 4) + ";house c rooms 1 rent 1 bill 1 smells x;wrong a of c;wrong c of a", 10, 1);
        rest(two(0, 1, 9) + ";house c rooms 1 rent 1 bill 1 smells x;wrong b of c;wrong c of b", 9, 90);
    }

    private static void rest(String text, int due, int dueFromThere) {
        WrongRoom x = Check.town(text);
        Check.answered(x, "rest(0, 1) of " + text, x.rest(0, 1), due);
        Check.answered(x, "rest(1, 0) of " + text, x.rest(1, 0), dueFromThere);
    }

    private static void noRest() {
        rest(two(2, 1, 6), -2, -2);
        rest(two(1, 1, 1), -2, -2);
        rest(two(9, 1, 9), -2, -2);
        WrongRoom x = Check.town(two(2, 9, 9) + ";" + Check.house("c", 1, 0, "x") + ";" + Check.house("d", 6, 0, "x"));
        Check.due("rest(0, 2), there is one", x.rest(0, 2), 50);
        Check.answered(x, "rest(2, 3) behind that", x.rest(2, 3), -2);
        Check.answered(x, "rests(2, 3) behind that", x.rests(2, 3), 0);
    }

    private static void restRefused() {
        WrongRoom x = Check.town(two(0, 3, 4));
        Check.refused(x, "rest(0, 0)", x.rest(0, 0), 1);
        Check.refused(x, "rest(1, 1)", x.rest(1, 1), 1);
        for (int h : NO_HOUSES) {
            Check.refused(x, "rest(" + h + ", 0)", x.rest(h, 0), 1);
            Check.refused(x, "rest(0, " + h + ")", x.rest(0, h), 1);
        }
    }
}
