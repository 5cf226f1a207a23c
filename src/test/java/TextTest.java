/** Promises 3 to 5: THE TEXT of a TOWN and its FAULTS. */
final class TextTest {
    private static final String TWO = Check.TWO;
    private static final int LINE = TWO.length() + 1;

    private TextTest() {
    }

    public static void main(String[] args) {
        goodTexts();
        form();
        untold();
        again();
        bounds();
        many();
        lacks();
        Check.end();
    }

    private static void good(String text, int houses) {
        WrongRoom x = new WrongRoom();
        Check.due("town of \"" + text + "\"", Check.tell(x, text), houses);
        Check.due("trouble() of \"" + text + "\"", x.trouble(), 0);
    }

    /** The FAULT of a line behind two houses, its place counted from the line's first byte. */
    private static void fault(String line, int number, int place) {
        Check.fault(TWO + ";" + line, number, LINE + place);
    }

    private static void goodTexts() {
        good(TWO, 2);
        good("  " + TWO + "   ", 2);
        good(TWO.replace(";", " ; "), 2);
        good(TWO.replace(" 2", "2").replace("2 ", "2").replace(" 0", "00"), 2);
        good(TWO.replace(" 3", " 003"), 2);
        good(TWO.replace("house b", "house abcdefgh"), 2);
        good(TWO.replace("smells x", "smells town"), 2);
        good(TWO.replace("house b", "house of") + ";wrong of of a;wrong a of of", 2);
        good(TWO + ";wrong a of b;wrong b of a", 2);
        good(TWO + ";open a from 0 to 0;open b from 23 to 23", 2);
        good(TWO + ";street a b minutes 99;person p home a at a;sign a sign;noise b 9", 2);
        good(Check.houses(7), 7);
        good(Check.houses(7).replace("rooms 3 rent 10 bill 0", "rooms 9 rent 99 bill 999"), 7);
    }

    private static void form() {
        Check.fault("", 1, 0);
        Check.fault("   ", 1, 3);
        Check.fault(";", 1, 0);
        Check.fault("foo", 1, 0);
        Check.fault("12", 1, 0);
        Check.fault("town", 1, 4);
        Check.fault("town  ", 1, 6);
        Check.fault("town dor 2", 1, 5);
        Check.fault("town door x", 1, 10);
        Check.fault("town door 2 like 0 like", 1, 19);
        Check.fault("town door 2 like 0,", 1, 18);
        Check.fault("town door 2 like 0;", 1, 19);
        Check.fault("town door 2 like 0;;", 1, 19);
        Check.fault("town door 2 like 0 ; house a rooms 3 rent 4", 1, 43);
        Check.fault("Town door 2 like 0", 1, 0);
        Check.fault("town-door 2 like 0", 1, 4);
        Check.fault("town\tdoor 2 like 0", 1, 4);
        Check.fault("town door 0002", 1, 10);
        Check.fault("town door 1234", 1, 10);
        Check.fault("towndoor 2", 1, 0);
        Check.fault("town door 2 like 0;house abcdefghi", 1, 25);
        fault("wrong wrong of b", 1, 6);
        fault("wrong a b", 1, 8);
        fault("wrong a of house", 1, 11);
        fault("wrong a of 5", 1, 11);
        fault("open a 5", 1, 7);
        fault("open a from 5 till", 1, 14);
        fault("street a minutes", 2, 9);
        fault("street a b 5", 1, 11);
        fault("person noise", 1, 7);
        fault("person p at", 1, 9);
        fault("person p home a home", 1, 16);
        fault("sign a ;", 1, 7);
        fault("sign a 5", 1, 7);
        fault("noise a x", 1, 8);
        fault("house town", 1, 6);
        fault("house c rooms 3 rent 1 bill 1 smells 5", 1, 37);
        fault("\u00e9", 1, 0);
    }

    private static void untold() {
        fault("wrong c of b", 2, 6);
        fault("wrong a of c", 2, 11);
        fault("open c from", 2, 5);
        fault("street c a", 2, 7);
        fault("street a c", 2, 9);
        fault("person p home p", 2, 14);
        fault("person p home a at p", 2, 19);
        fault("person p home a at b;wrong p", 2, 27);
        fault("sign smells x", 2, 5);
        fault("noise c 0", 2, 6);
        Check.fault("town door 2 like 0;wrong a", 2, 25);
    }

    private static void again() {
        fault("house a", 3, 6);
        fault("house b!", 3, 6);
        fault("person a", 3, 7);
        fault("person p home a at a;person p", 3, 28);
        fault("person p home a at a;house p", 3, 27);
        fault("wrong a of a", 3, 11);
        fault("wrong a of b;wrong a of a", 3, 19);
        fault("open a from 1 to 2;open a from 3", 3, 24);
        fault("street a a", 3, 9);
        fault("street a b minutes 1;street a b", 3, 30);
        fault("street a b minutes 1;street b a", 3, 30);
        fault("town", 3, 0);
        Check.fault("town door 2 like 0;town door 2 like 0", 3, 19);
        String three = Check.houses(3);
        Check.fault(three + ";wrong a of b;wrong c of b", 3, three.length() + 25);
    }

    private static void bounds() {
        Check.fault("town door 0", 4, 10);
        Check.fault("town door 10", 4, 10);
        Check.fault("town door 9 like 10", 4, 17);
        fault("house c rooms 0", 4, 14);
        fault("house c rooms 10", 4, 14);
        fault("house c rooms 9 rent 0", 4, 21);
        fault("house c rooms 9 rent 100", 4, 21);
        fault("house c rooms 9 rent 99 bill 1000", 1, 29);
        fault("open a from 24", 4, 12);
        fault("open a from 9 to 8", 4, 17);
        fault("open a from 9 to 24", 4, 17);
        fault("street a b minutes 0", 4, 19);
        fault("street a b minutes 100", 4, 19);
        fault("noise a 0", 4, 8);
        fault("noise a 10", 4, 8);
    }

    private static void many() {
        String seven = Check.houses(7);
        Check.fault(seven + "; house h", 5, seven.length() + 2);
        good(seven + streets(10), 7);
        Check.fault(seven + streets(10) + ";street", 5, (seven + streets(10)).length() + 1);
        manyOf(";sign a x", 8);
        manyOf(";noise a 3", 4);
        String four = ";person p home a at a;person q home a at a;person r home a at a;person s home a at a";
        good(TWO + four, 2);
        fault(four.substring(1) + ";person p", 5, four.length());
        good(seven + Check.wrongs("bcdefga"), 7);
        String all = seven + Check.wrongs("bcdefga");
        Check.fault(all + ";wrong a", 3, all.length() + 7);
    }

    private static String streets(int n) {
        String[] pairs = {"a b", "a c", "a d", "a e", "a f", "a g", "b c", "b d", "b e", "b f"};
        StringBuilder text = new StringBuilder();
        for (int i = 0; i < n; i++) {
            text.append(";street ").append(pairs[i]).append(" minutes 5");
        }
        return text.toString();
    }

    private static void manyOf(String line, int room) {
        String full = TWO + line.repeat(room);
        good(full, 2);
        Check.fault(full + line, 5, full.length() + 1);
    }

    private static void lacks() {
        Check.fault(" house a", 6, 1);
        Check.fault("wrong", 6, 0);
        Check.fault("noise 5;town door 2 like 0", 6, 0);
        Check.fault("town door 2 like 0", 6, 18);
        Check.fault("town door 2 like 0  ", 6, 20);
        String one = Check.houses(1);
        Check.fault(one, 6, one.length());
        Check.fault(one + ";person p home a at a", 6, one.length() + 21);
    }
}
