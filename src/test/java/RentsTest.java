/** Promises 32 to 34: gain, rests, rest. */
final class RentsTest {
    private RentsTest() {
    }

    public static void main(String[] args) {
        gains();
        mutualHouses();
        like();
        rests();
        refusals();
        Check.end();
    }

    private static void gain(WrongRoom x, int tens, int others, int one, int other) {
        String call = "gain(0, " + tens + ", 1, " + others + ", ..)";
        Check.due(call, x.gain(0, tens, 1, others, false), one);
        Check.due(call + " of the other", x.gain(0, tens, 1, others, true), other);
        Check.due(call + " seen from there", x.gain(1, others, 0, tens, false), other);
        Check.due("trouble()", x.trouble(), 0);
    }

    private static String two(int like, int rooms, int others) {
        return "town door 1 like " + like + ";" + Check.house("a", rooms, 0, "x") + ";"
                + Check.house("b", others, 0, "x");
    }

    private static void gains() {
        WrongRoom x = Check.town(two(0, 3, 4));
        gain(x, 0, 0, 0, 0);
        gain(x, 2, 3, 2 * 3, 3 * 3);
        gain(x, 2, 4, 2 * 7, 0);
        gain(x, 2, 2, 0, 2 * 7);
        gain(x, 9, 9, 0, 63);
        gain(x, 0, 9, 0, 0);
    }

    private static void mutualHouses() {
        WrongRoom x = Check.town(two(0, 3, 4) + ";wrong a of b;wrong b of a");
        gain(x, 2, 3, 6, 9);
        WrongRoom y = Check.town(two(0, 3, 4) + ";house c rooms 1 rent 1 bill 1 smells x;wrong a of c;wrong c of a");
        gain(y, 3, 2, 9, 6);
        gain(y, 2, 2, 14, 0);
        WrongRoom z = Check.town(two(0, 3, 4) + ";wrong a of b");
        gain(z, 2, 2, 0, 14);
    }

    private static void like() {
        WrongRoom x = Check.town(two(2, 3, 4));
        gain(x, 2, 5, 6, 15);
        gain(x, 2, 6, 14, 0);
        gain(x, 3, 2, 9, 6);
        gain(x, 4, 2, 0, 14);
    }

    private static void rests() {
        WrongRoom x = Check.town(two(0, 3, 5));
        Check.due("rests(0, 1)", x.rests(0, 1), 3);
        Check.due("rest(0, 1)", x.rest(0, 1), 1);
        Check.due("rests(1, 0)", x.rests(1, 0), 3);
        Check.due("rest(1, 0)", x.rest(1, 0), 10);
        WrongRoom all = Check.town(two(9, 1, 1));
        Check.due("rests(0, 1), far alike", all.rests(0, 1), 1);
        Check.due("rest(0, 1), far alike", all.rest(0, 1), 99);
        WrongRoom none = Check.town(two(2, 1, 6));
        Check.due("rests(0, 1) of none", none.rests(0, 1), 0);
        Check.due("rest(0, 1) of none", none.rest(0, 1), -2);
        Check.due("trouble()", none.trouble(), 0);
    }

    private static void refusals() {
        WrongRoom x = Check.town(two(0, 3, 4));
        Check.refused(x, "gain(0, 0, 0, 0, false)", x.gain(0, 0, 0, 0, false), 1);
        Check.refused(x, "gain(0, 0, 2, 0, false)", x.gain(0, 0, 2, 0, false), 1);
        Check.refused(x, "gain(-1, 0, 1, 0, false)", x.gain(-1, 0, 1, 0, false), 1);
        Check.refused(x, "gain(0, -1, 0, 10, true)", x.gain(0, -1, 0, 10, true), 1);
        Check.refused(x, "gain(0, -1, 1, 0, true)", x.gain(0, -1, 1, 0, true), 2);
        Check.refused(x, "gain(0, 10, 1, 0, true)", x.gain(0, 10, 1, 0, true), 2);
        Check.refused(x, "gain(0, 0, 1, -1, true)", x.gain(0, 0, 1, -1, true), 2);
        Check.refused(x, "gain(0, 0, 1, 10, true)", x.gain(0, 0, 1, 10, true), 2);
        Check.refused(x, "rests(1, 1)", x.rests(1, 1), 1);
        Check.refused(x, "rests(0, 2)", x.rests(0, 2), 1);
        Check.refused(x, "rest(0, 0)", x.rest(0, 0), 1);
        Check.refused(x, "rest(-1, 0)", x.rest(-1, 0), 1);
    }
}
