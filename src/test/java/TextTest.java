/** Promises 3 to 5: THE TEXT of a TOWN and its FAULTS, by the words of the document's Terms I. */
final class TextTest {
    private static final String TOWN = Check.TOWN;
    private static final String TWO = Check.TWO;
    private static final int LINE = TWO.length() + 1;
    private static final String[] SORTS = {"town", "house", "wrong", "open", "street", "person", "sign", "noise"};
    private static final String FOUR_PEOPLE = ";person p home a at a;person q home a at b;person r home b at a"
            + ";person s home b at b";

    private TextTest() {
    }

    public static void main(String[] args) {
        tokens();
        lines();
        Check.promise(3, "NAMES are WORDS but town, house, wrong, open, street, person, sign, noise", TextTest::names);
        Check.promise(3, "each told once, ahead of its use", TextTest::aheadOfUse);
        Check.promise(4, "FAULTS, the first that is met from the left", TextTest::firstFromTheLeft);
        Check.promise(4, "of one place the least number", TextTest::leastNumber);
        form();
        Check.promise(4, "2 a NAME that isn't told", TextTest::nameNotTold);
        Check.promise(4, "or is of another sort than must stand there; at it", TextTest::anotherSort);
        again();
        Check.promise(4, "4 a WHOLE out of bounds; at it", TextTest::outOfBounds);
        many();
        lacks();
        Check.end();
    }

    private static void tokens() {
        Check.promise(3, "blanks, 32, part TOKENS and mean nothing else", TextTest::blanks);
        Check.promise(3, "blanks, 32, part TOKENS and mean nothing else", TextTest::noOtherBlanks);
        Check.promise(3, "TOKENS: WORDS of 1 to 8 small letters that stand together", TextTest::words);
        Check.promise(3, "WORDS of 1 to 8 small letters that stand together", TextTest::wordsApart);
        Check.promise(3, "small letters", TextTest::smallLetters);
        Check.promise(3, "WHOLES of 1 to 3 digits that do", TextTest::wholes);
        Check.promise(3, "single ones of ;", TextTest::semicolons);
        Check.promise(3, "I. THE TEXT of a TOWN (THE TAPE has 1,100 bytes; blanks, 32, part TOKENS", TextTest::everyByte);
        Check.promise(3, "LINE {; LINE}. LINE, one of:", TextTest::rowOfLines);
    }

    private static void lines() {
        Check.promise(3, "town door WHOLE like WHOLE (1 .. 9 minutes through a door; 0 .. 9), ahead of all others",
                TextTest::townLine);
        Check.promise(3, "house NAME rooms WHOLE rent WHOLE bill WHOLE smells WORD (1 .. 9; 1 .. 99; 0 .. 999; any WORD; up to 7)",
                TextTest::houseLine);
        Check.promise(3, "any WORD", TextTest::anySmell);
        Check.promise(3, "wrong HOUSE of HOUSE (unlike; once for each of the first ones, once of each of the second ones)",
                TextTest::wrongLine);
        Check.promise(3, "or open HOUSE from WHOLE to WHOLE (hours, 0 .. 23; from .. 23; once for each)",
                TextTest::openLine);
        Check.promise(3, "street HOUSE HOUSE minutes WHOLE (unlike; once in whatever order; 1 .. 99; up to 10)",
                TextTest::streetLine);
        Check.promise(3, "or person NAME home HOUSE at HOUSE (up to 4)", TextTest::personLine);
        Check.promise(3, "sign HOUSE WORD (a smell in its wrong room; up to 8)", TextTest::signLine);
        Check.promise(3, "or noise HOUSE WHOLE (it is of a house of so many rooms or more; 1 .. 9; up to 4)",
                TextTest::noiseLine);
    }

    private static void form() {
        Check.promise(4, "1 FORM: the first byte that begins no TOKEN", TextTest::noToken);
        Check.promise(4, "or TOKEN with which no TOWN goes on", TextTest::noTownGoesOn);
        Check.promise(4, "(the end: its place)", TextTest::placeOfTheEnd);
        Check.promise(4, "(the end: its place)", TextTest::emptyText);
    }

    private static void again() {
        Check.promise(4, "3 a NAME told again; at it", TextTest::nameAgain);
        Check.promise(4, "a HOUSE whose wrong room, whose hours are told already; at it", TextTest::houseAgain);
        Check.promise(4, "a second HOUSE that is the first", TextTest::secondIsFirst);
        Check.promise(4, "or of which a wrong room is told already", TextTest::ofWhichTold);
        Check.promise(4, "or to which there is a street already; at it", TextTest::streetAgain);
        Check.promise(4, "a second town: at that WORD", TextTest::secondTown);
    }

    private static void many() {
        Check.promise(4, "5 MANY: a LINE more of its sort than there is room for, at its first WORD", TextTest::manyHouses);
        Check.promise(4, "a LINE more of its sort than there is room for", TextTest::manyStreets);
        Check.promise(4, "a LINE more of its sort than there is room for", TextTest::manyPeople);
        Check.promise(4, "a LINE more of its sort than there is room for", TextTest::manySigns);
        Check.promise(4, "a LINE more of its sort than there is room for", TextTest::manyNoises);
        Check.promise(4, "a LINE more of its sort than there is room for", TextTest::allWrongRoomsAndHours);
    }

    private static void lacks() {
        Check.promise(4, "6 LACKS: any LINE ahead of the town; at its WORD", TextTest::aheadOfTheTown);
        Check.promise(4, "at the end: one house alone, or none", TextTest::oneHouseAlone);
        Check.promise(4, "at the end: one house alone, or none", TextTest::noHouse);
    }

    private static WrongRoom good(String text, int houses) {
        WrongRoom x = new WrongRoom();
        Check.answered(x, "town of \"" + text + "\"", Check.tell(x, text), houses);
        return x;
    }

    /** The FAULT of a line behind two houses, its place counted from the line's first byte. */
    private static void fault(String line, int number, int place) {
        Check.fault(TWO + ";" + line, number, LINE + place);
    }

    private static void blanks() {
        good("  " + TWO + "   ", 2);
        good(TWO.replace(";", " ; "), 2);
        good(TWO.replace(" ", "   "), 2);
        good(TWO.replace(" 2", "2").replace("2 ", "2").replace(" 0", "0").replace(" 3 ", "3").replace(" 10 ", "10"), 2);
        Check.fault("to wn door 2 like 0", 1, 0);
        Check.fault("town door 2 li ke 0", 1, 12);
        Check.fault("towndoor 2 like 0", 1, 0);
        fault("house c rooms 3 rent 1 0 bill 5 smells x", 1, 23);
    }

    private static void noOtherBlanks() {
        Check.fault("town\tdoor 2 like 0", 1, 4);
        Check.fault("town\ndoor 2 like 0", 1, 4);
        Check.fault("\r" + TWO, 1, 0);
        Check.fault(TWO + "\n", 1, TWO.length());
        Check.fault(TWO + "\0", 1, TWO.length());
        Check.fault(TWO + "\u00a0", 1, TWO.length());
    }

    private static void words() {
        good(TWO.replace("house b", "house abcdefgh"), 2);
        good(TWO.replace("smells y", "smells abcdefgh") + ";sign a abcdefgh", 2);
        fault("house abcdefghi rooms 3", 1, 6);
        fault("sign a abcdefghi", 1, 7);
        fault("wrong abcdefghi of b", 1, 6);
        fault("house c rooms 3 rent 1 bill 1 smells abcdefghi", 1, 37);
        fault("person abcdefghi", 1, 7);
        WrongRoom x = good(TWO.replace("house b", "house abcdefgh") + ";house abcdefgx rooms 9 rent 1 bill 1 smells x"
                + ";wrong a of abcdefgx", 3);
        Check.due("house(0, 3), the eighth letter counts", x.house(0, 3), 2);
        WrongRoom y = good(TWO + ";wrong a of b;sign a ya", 2);
        Check.due("judge(), WORDS of unlike lengths", y.judge(), 0);
        WrongRoom z = good(TWO.replace("smells y", "smells zzzzzzzz") + ";wrong a of b;sign a zzzzzzzz;sign a zzzzzzz", 2);
        Check.due("judge(), the longest WORD", z.judge(), 1);
    }

    /** All WORDS of one and of two letters by which a WORD could be mistaken. */
    private static void wordsApart() {
        for (char c = 'a'; c <= 'z'; c++) {
            unlike("y", c + "y");
            unlike("y", "y" + c);
            unlike("y", c == 'y' ? "x" : String.valueOf(c));
            unlike("ab", c == 'b' ? "ba" : "a" + c);
            unlike("abcdefgh", c == 'h' ? "abcdefg" : "abcdefg" + c);
        }
    }

    private static void unlike(String smell, String other) {
        WrongRoom x = Check.town(TWO.replace("smells y", "smells " + smell) + ";wrong a of b;sign a " + smell + ";sign a "
                + other);
        Check.due("judge() of " + other + " by " + smell, x.judge(), 1);
    }

    private static void smallLetters() {
        Check.fault("Town door 2 like 0", 1, 0);
        Check.fault("town door 2 like 0;house A", 1, 25);
        Check.fault("town door 2 like 0;house aB", 1, 26);
        good(TWO.replace("house b", "house z") + ";wrong a of z", 2);
        Check.fault("town door 2 like 0;house `", 1, 25);
        Check.fault("town door 2 like 0;house {", 1, 25);
        Check.fault("town door 2 like 0;house \u00e9", 1, 25);
    }

    private static void wholes() {
        Check.due("rooms 003", good(TWO.replace("rooms 3", "rooms 003"), 2).house(0, 0), 3);
        Check.due("rent 099", good(TWO.replace("a rooms 3 rent 10", "a rooms 3 rent 099"), 2).house(0, 1), 99);
        Check.due("bill 999", good(TWO.replace("bill 100", "bill 999"), 2).house(0, 2), 999);
        Check.due("bill 000", good(TWO.replace("bill 100", "bill 000"), 2).house(0, 2), 0);
        Check.fault("town door 0002", 1, 10);
        Check.fault("town door 1234", 1, 10);
        fault("house c rooms 9 rent 9 bill 1000", 1, 28);
        fault("house c rooms 9 rent 9 bill 0999", 1, 28);
        fault("noise a 99999999999999999999", 1, 8);
        fault("noise a 4294967297", 1, 8);
        fault("noise a -1", 1, 8);
        fault("noise a +1", 1, 8);
        fault("noise a /", 1, 8);
        fault("noise a :", 1, 8);
    }

    private static void semicolons() {
        good(TWO + ";wrong a of b ; wrong b of a", 2);
        Check.fault(";", 1, 0);
        Check.fault(";" + TWO, 1, 0);
        Check.fault(TWO.replace(";", ";;"), 1, TOWN.length() + 1);
        Check.fault(TWO + " wrong a of b", 1, TWO.length() + 1);
        Check.fault(TWO + ", wrong a of b", 1, TWO.length());
        Check.fault("town; door 2 like 0", 1, 4);
    }

    /** Each of the 256 bytes behind a text, and behind a blank there. */
    private static void everyByte() {
        int end = TWO.length();
        for (int b = 0; b < 256; b++) {
            String text = TWO + (char) b;
            boolean letter = b >= 'a' && b <= 'z';
            if (letter || b == 32) {
                good(text, 2);
            } else {
                Check.fault(text, 1, b == ';' ? end + 1 : end);
            }
            if (b == 32) {
                good(TWO + "  ", 2);
            } else {
                Check.fault(TWO + " " + (char) b, 1, b == ';' ? end + 2 : end + 1);
            }
        }
    }

    private static void rowOfLines() {
        good(TWO, 2);
        good(TWO + ";wrong a of b;noise b 3;sign b x;person p home b at a;street b a minutes 1;open a from 1 to 1", 2);
        good(TWO + ";noise b 3;wrong a of b;" + Check.house("c", 1, 0, "x") + ";noise c 1", 3);
        Check.fault(TWO + ";", 1, LINE);
        Check.fault(TWO + ";  ", 1, LINE + 2);
        Check.fault("12", 1, 0);
        Check.fault("foo", 1, 0);
        fault("rooms", 1, 0);
        fault("a", 1, 0);
    }

    private static void townLine() {
        for (int door = 0; door <= 11; door++) {
            String text = TWO.replace("door 2", "door " + door);
            if (door >= 1 && door <= 9) {
                Check.due("size(0)", good(text, 2).size(0), door);
            } else {
                Check.fault(text, 4, 10);
            }
        }
        for (int like = 0; like <= 11; like++) {
            String text = TWO.replace("like 0", "like " + like);
            if (like <= 9) {
                Check.due("size(1)", good(text, 2).size(1), like);
            } else {
                Check.fault(text, 4, 17);
            }
        }
    }

    private static void houseLine() {
        wholeOf("house c rooms ", 1, 9, " rent 1 bill 1 smells x");
        wholeOf("house c rooms 1 rent ", 1, 99, " bill 1 smells x");
        wholeOf("house c rooms 1 rent 1 bill ", 0, 999, " smells x");
        good(Check.houses(7), 7);
        good(Check.houses(7).replace("rooms 3 rent 10 bill 0", "rooms 9 rent 99 bill 999"), 7);
    }

    /** A WHOLE at its bounds, and next to them. */
    private static void wholeOf(String front, int least, int most, String rest) {
        int houses = front.startsWith("house") ? 3 : 2;
        good(TWO + ";" + front + least + rest, houses);
        good(TWO + ";" + front + most + rest, houses);
        if (least > 0) {
            fault(front + (least - 1) + rest, 4, front.length());
        }
        fault(front + (most + 1) + rest, most < 999 ? 4 : 1, front.length());
    }

    private static void anySmell() {
        for (String sort : SORTS) {
            WrongRoom x = good(TWO.replace("smells y", "smells " + sort) + ";wrong a of b;sign a " + sort, 2);
            Check.due("judge() of " + sort, x.judge(), -2);
        }
        good(TWO.replace("smells y", "smells b"), 2);
    }

    private static void wrongLine() {
        good(TWO + ";wrong a of b", 2);
        good(TWO + ";wrong a of b;wrong b of a", 2);
        good(Check.houses(7) + Check.wrongs("bcdefga"), 7);
        fault("wrong a of a", 3, 11);
        fault("wrong a of b;wrong a of b", 3, 19);
        fault("wrong a b", 1, 8);
    }

    private static void openLine() {
        wholeOf("open a from ", 0, 23, " to 23");
        wholeOf("open a from 0 to ", 0, 23, "");
        good(TWO + ";open a from 0 to 0;open b from 23 to 23", 2);
        wholeOf("open a from 9 to ", 9, 23, "");
        wholeOf("open a from 23 to ", 23, 23, "");
        fault("open a from 1 to 2;open a from 3 to 4", 3, 24);
        fault("open a from 5 till", 1, 14);
    }

    private static void streetLine() {
        wholeOf("street a b minutes ", 1, 99, "");
        fault("street a a minutes 5", 3, 9);
        fault("street a b minutes 1;street a b minutes 1", 3, 30);
        fault("street a b minutes 1;street b a minutes 1", 3, 30);
        good(Check.houses(7) + streets(10), 7);
    }

    private static String streets(int n) {
        String[] pairs = {"a b", "c a", "a d", "e a", "a f", "g a", "b c", "d b", "b e", "f b", "g b"};
        StringBuilder text = new StringBuilder();
        for (int i = 0; i < n; i++) {
            text.append(";street ").append(pairs[i]).append(" minutes 5");
        }
        return text.toString();
    }

    private static void personLine() {
        WrongRoom x = good(TWO + FOUR_PEOPLE, 2);
        Check.due("size(6)", x.size(6), 4);
        Check.due("person(1, 1)", x.person(1, 1), 1);
        Check.due("person(2, 0)", x.person(2, 0), 1);
        fault("person p at", 1, 9);
        fault("person p home a home", 1, 16);
    }

    private static void signLine() {
        Check.due("size(7)", good(TWO + ";sign a x".repeat(8), 2).size(7), 8);
        fault("sign a 5", 1, 7);
        fault("sign a ;", 1, 7);
        fault("sign a", 1, 6);
    }

    private static void noiseLine() {
        wholeOf("noise a ", 1, 9, "");
        Check.due("size(8)", good(TWO + ";noise a 3".repeat(4), 2).size(8), 4);
        fault("noise a x", 1, 8);
        fault("noise a", 1, 7);
    }

    private static void names() {
        for (String sort : SORTS) {
            fault("house " + sort, 1, 6);
            fault("person " + sort, 1, 7);
            fault("wrong " + sort + " of b", 1, 6);
            fault("wrong a of " + sort, 1, 11);
            fault("open " + sort, 1, 5);
            fault("street " + sort, 1, 7);
            fault("street a " + sort, 1, 9);
            fault("person p home " + sort, 1, 14);
            fault("person p home a at " + sort, 1, 19);
            fault("sign " + sort, 1, 5);
            fault("noise " + sort, 1, 6);
        }
        for (String word : new String[] {"door", "like", "rooms", "rent", "bill", "smells", "of", "from", "to",
            "minutes", "home", "at", "towns", "tow", "x"}) {
            good(TWO.replace("house b", "house " + word) + ";wrong " + word + " of a;person p home " + word + " at a", 2);
            good(TWO + ";person " + word + " home a at b", 2);
        }
    }

    private static void aheadOfUse() {
        Check.fault(TOWN + ";wrong a of b;" + TWO.substring(TOWN.length() + 1), 2, TOWN.length() + 7);
        fault("wrong a of c;" + Check.house("c", 1, 0, "x"), 2, 11);
        fault("person p home p at a", 2, 14);
        good(TWO + ";wrong a of b;" + Check.house("c", 1, 0, "x") + ";wrong c of a", 3);
    }

    private static void firstFromTheLeft() {
        fault("house a rooms 0 !", 3, 6);
        fault("house c rooms 0 !", 4, 14);
        fault("wrong c of c", 2, 6);
        fault("wrong a of b;wrong a of a", 3, 19);
        fault("street a c minutes 0", 2, 9);
        fault("noise a 0 ! town", 4, 8);
        fault("noise ! 0", 1, 6);
        Check.fault("house !;town", 6, 0);
        Check.fault("town door 0 like 99", 4, 10);
        Check.fault(TOWN + "!", 1, TOWN.length());
        String full = Check.houses(7);
        Check.fault(full + ";house a rooms 0", 5, full.length() + 1);
    }

    private static void leastNumber() {
        Check.fault("", 1, 0);
        Check.fault(TOWN + ";", 1, TOWN.length() + 1);
        String one = Check.houses(1);
        Check.fault(one + ";wrong a of", 1, one.length() + 11);
        Check.fault("!house a", 1, 0);
        Check.fault("houses a", 1, 0);
        fault("wrong town of b", 1, 6);
        String full = TWO + ";noise a 3".repeat(4);
        Check.fault(full + ";town", 3, full.length() + 1);
    }

    private static void noToken() {
        Check.fault("!", 1, 0);
        Check.fault("town-door 2 like 0", 1, 4);
        Check.fault("town door 2.5 like 0", 1, 11);
        Check.fault("town door 2 like 0,", 1, 18);
        fault("\u00e9", 1, 0);
        fault("\u00ff", 1, 0);
        fault("house c! rooms 3", 1, 7);
        fault("abcdefghi", 1, 0);
        fault("noise a 0001", 1, 8);
    }

    private static void noTownGoesOn() {
        Check.fault("town dor 2", 1, 5);
        Check.fault("town door x", 1, 10);
        Check.fault("town door ;", 1, 10);
        Check.fault("town door 2 2", 1, 12);
        Check.fault("town door 2 like 0 like", 1, 19);
        Check.fault("town door 2 like 0 5", 1, 19);
        fault("house 5", 1, 6);
        fault("house c room 3", 1, 8);
        fault("house c rooms 3 bill", 1, 16);
        fault("house c rooms 3 rent 1 smells", 1, 23);
        fault("house c rooms 3 rent 1 bill 1 smell", 1, 30);
        fault("house c rooms 3 rent 1 bill 1 smells 5", 1, 37);
        fault("house c rooms 3 rent 1 bill 1 smells x y", 1, 39);
        fault("wrong a of 5", 1, 11);
        fault("wrong a of b c", 1, 13);
        fault("open a 5", 1, 7);
        fault("open a from 5 6", 1, 14);
        fault("open a from b", 1, 12);
        fault("street a b 5", 1, 11);
        fault("street a 5", 1, 9);
        fault("street a b minutes b", 1, 19);
        fault("person 5", 1, 7);
        fault("person p 5", 1, 9);
        fault("sign 5", 1, 5);
        fault("sign a x x", 1, 9);
        fault("noise 5", 1, 6);
        fault("noise a 5 5", 1, 10);
    }

    private static void placeOfTheEnd() {
        Check.fault("town", 1, 4);
        Check.fault("town  ", 1, 6);
        Check.fault("town door 2 like", 1, 16);
        Check.fault("town door 2 like 0;", 1, 19);
        Check.fault("town door 2 like 0;  ", 1, 21);
        Check.fault("town door 2 like 0 ; house a rooms 3 rent 4", 1, 43);
        WrongRoom x = new WrongRoom();
        Check.feed(x, TWO);
        Check.refused(x, "town(16), the tape has more", x.town(16), 4);
        Check.due("fault()", x.fault(), 1);
        Check.due("where()", x.where(), 16);
    }

    private static void emptyText() {
        Check.fault("", 1, 0);
        Check.fault("   ", 1, 3);
        WrongRoom x = new WrongRoom();
        Check.feed(x, TWO);
        Check.refused(x, "town(0), the tape has more", x.town(0), 4);
        Check.due("fault()", x.fault(), 1);
        Check.due("where()", x.where(), 0);
    }

    private static void nameNotTold() {
        fault("wrong c of b", 2, 6);
        fault("wrong a of c", 2, 11);
        fault("open c from", 2, 5);
        fault("street c a", 2, 7);
        fault("street a c", 2, 9);
        fault("street a minutes", 2, 9);
        fault("person p home c", 2, 14);
        fault("person p home a at c", 2, 19);
        fault("sign c x", 2, 5);
        fault("noise c 0", 2, 6);
        fault("sign x x", 2, 5);
        Check.fault(TOWN + ";wrong a", 2, TOWN.length() + 7);
    }

    private static void anotherSort() {
        String person = "person p home a at b;";
        int at = person.length();
        fault(person + "wrong p", 2, at + 6);
        fault(person + "wrong a of p", 2, at + 11);
        fault(person + "open p", 2, at + 5);
        fault(person + "street p", 2, at + 7);
        fault(person + "street a p", 2, at + 9);
        fault(person + "person q home p", 2, at + 14);
        fault(person + "person q home a at p", 2, at + 19);
        fault(person + "sign p", 2, at + 5);
        fault(person + "noise p", 2, at + 6);
    }

    private static void nameAgain() {
        fault("house a", 3, 6);
        fault("house b!", 3, 6);
        fault("person a", 3, 7);
        fault("person b home a at a", 3, 7);
        fault("person p home a at a;person p", 3, 28);
        fault("person p home a at a;house p", 3, 27);
        good(TWO + ";person x home a at a", 2);
    }

    private static void houseAgain() {
        fault("wrong a of b;wrong a", 3, 19);
        fault("wrong a of b;wrong a of", 3, 19);
        fault("open a from 1 to 2;open a", 3, 24);
        good(TWO + ";wrong a of b;open a from 1 to 2;open b from 1 to 2;wrong b of a", 2);
    }

    private static void secondIsFirst() {
        fault("wrong a of a", 3, 11);
        fault("wrong b of b", 3, 11);
        fault("street a a", 3, 9);
        fault("street b b minutes 0", 3, 9);
        good(TWO + ";person p home a at a", 2);
    }

    private static void ofWhichTold() {
        String three = Check.houses(3);
        Check.fault(three + ";wrong a of b;wrong c of b", 3, three.length() + 25);
        Check.fault(three + ";wrong c of b;wrong a of b", 3, three.length() + 25);
        good(three + ";wrong a of b;wrong b of c;wrong c of a", 3);
    }

    private static void streetAgain() {
        fault("street a b minutes 1;street a b", 3, 30);
        fault("street a b minutes 1;street b a", 3, 30);
        fault("street b a minutes 1;street b a!", 3, 30);
        good(Check.houses(3) + ";street a b minutes 1;street b c minutes 1;street c a minutes 1", 3);
    }

    private static void secondTown() {
        fault("town", 3, 0);
        fault("town door 0", 3, 0);
        Check.fault(TOWN + ";" + TOWN, 3, TOWN.length() + 1);
        Check.fault(TOWN + ";  town", 3, TOWN.length() + 3);
    }

    private static void outOfBounds() {
        Check.fault("town door 0", 4, 10);
        Check.fault("town door 10", 4, 10);
        Check.fault("town door  999", 4, 11);
        Check.fault("town door 9 like 10", 4, 17);
        fault("house c rooms 0", 4, 14);
        fault("house c rooms 10", 4, 14);
        fault("house c rooms 9 rent 0", 4, 21);
        fault("house c rooms 9 rent 00", 4, 21);
        fault("house c rooms 9 rent 100", 4, 21);
        fault("open a from 24", 4, 12);
        fault("open a from 9 to 8", 4, 17);
        fault("open a from 9 to 24", 4, 17);
        fault("street a b minutes 0", 4, 19);
        fault("street a b minutes 100", 4, 19);
        fault("noise a 0", 4, 8);
        fault("noise a 10", 4, 8);
    }

    private static void manyHouses() {
        String seven = Check.houses(7);
        Check.fault(seven + ";" + Check.house("h", 1, 0, "x"), 5, seven.length() + 1);
        Check.fault(seven + ";  house", 5, seven.length() + 3);
        good(seven + ";sign a x", 7);
    }

    private static void manyStreets() {
        String full = Check.houses(7) + streets(10);
        good(full, 7);
        Check.fault(full + ";street g b minutes 5", 5, full.length() + 1);
        Check.fault(full + ";street", 5, full.length() + 1);
        good(full + ";sign a x;person p home a at a", 7);
    }

    private static void manyPeople() {
        String full = TWO + FOUR_PEOPLE;
        Check.fault(full + ";person t home a at a", 5, full.length() + 1);
        Check.fault(full + ";person p", 5, full.length() + 1);
        good(full + ";sign a x;noise a 1", 2);
        good(full + ";" + Check.house("c", 1, 0, "x") + ";wrong a of c", 3);
        Check.fault(full + ";house s", 3, full.length() + 7);
    }

    private static void manySigns() {
        String full = TWO + ";sign a x".repeat(8);
        Check.fault(full + ";sign a x", 5, full.length() + 1);
        Check.fault(full + ";sign 5", 5, full.length() + 1);
        good(full + ";noise a 3", 2);
    }

    private static void manyNoises() {
        String full = TWO + ";noise a 3".repeat(4);
        Check.fault(full + ";noise a 3", 5, full.length() + 1);
        Check.fault(full + ";noise!", 5, full.length() + 1);
        good(full + ";sign a x", 2);
    }

    /** No number is told for these: a HOUSE told already is what is met. */
    private static void allWrongRoomsAndHours() {
        String all = Check.houses(7) + Check.wrongs("bcdefga");
        Check.fault(all + ";wrong a", 3, all.length() + 7);
        String hours = TWO + ";open a from 1 to 1;open b from 1 to 1";
        Check.fault(hours + ";open b", 3, hours.length() + 6);
    }

    private static void aheadOfTheTown() {
        for (String sort : SORTS) {
            if (!sort.equals("town")) {
                Check.fault(sort, 6, 0);
                Check.fault("  " + sort + " a", 6, 2);
                Check.fault(sort + " 5;" + TWO, 6, 0);
            }
        }
        Check.fault(TWO.substring(TOWN.length() + 1) + ";" + TOWN, 6, 0);
    }

    private static void oneHouseAlone() {
        String one = Check.houses(1);
        Check.fault(one, 6, one.length());
        Check.fault(one + "  ", 6, one.length() + 2);
        Check.fault(one + ";person p home a at a", 6, one.length() + 21);
        good(Check.houses(2), 2);
    }

    private static void noHouse() {
        Check.fault(TOWN, 6, TOWN.length());
        Check.fault(TOWN + "  ", 6, TOWN.length() + 2);
    }
}
