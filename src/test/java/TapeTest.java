/** Promises 1 to 5: a new object, feed, town, fault, where. */
final class TapeTest {
    private static final String GOOD = Check.TWO + ";wrong a of b;street a b minutes 4;person p home a at b";

    private TapeTest() {
    }

    public static void main(String[] args) {
        Check.promise(1, "No TOWN.", TapeTest::nothingIsTold);
        Check.promise(1, "No TOWN.", TapeTest::callsAreRefused);
        Check.promise(1, "`NONE = -1`: There is none; refused.", TapeTest::none);
        Check.promise(1, "An object is used for at most 512 calls after it has been made", TapeTest::manyCalls);
        Check.promise(2, "Twenty bytes come behind THE TAPE", TapeTest::bytesComeBehind);
        Check.promise(2, "of each number the highest first", TapeTest::highestFirst);
        Check.promise(2, "how many it has", TapeTest::feedCounts);
        Check.promise(2, "NONE, and none comes, if there would be more than 1,100", TapeTest::tapeIsFull);
        Check.promise(2, "THE TAPE has 1,100 bytes", TapeTest::allBytesAreRead);
        Check.promise(3, "The first n bytes of THE TAPE", TapeTest::firstBytes);
        Check.promise(3, "(it is empty then)", TapeTest::tapeIsEmptyThen);
        Check.promise(3, "are the TOWN from now on", TapeTest::fromNowOn);
        Check.promise(3, "are the TOWN from now on", TapeTest::townByTown);
        Check.promise(3, "rooms as told", TapeTest::roomsAsTold);
        Check.promise(3, "no DOOR SHUT", TapeTest::noDoorShut);
        Check.promise(3, "nothing to undo", TapeTest::nothingToUndo);
        Check.promise(3, "no MARKS", TapeTest::noMarks);
        Check.promise(3, "how many houses", TapeTest::howManyHouses);
        Check.promise(3, "NONE: 2 (THE TAPE stays)", TapeTest::tooManyBytes);
        Check.promise(3, "NONE: 2 (THE TAPE stays)", TapeTest::tooFewBytes);
        Check.promise(3, "NONE: 2 (THE TAPE stays)", TapeTest::emptyTape);
        Check.promise(3, "4 (the TOWN stays)", TapeTest::townStays);
        Check.promise(3, "4 (the TOWN stays)", TapeTest::noTownStays);
        Check.promise(4, "The FAULT of the latest town() not refused by 2", TapeTest::latestFault);
        Check.promise(4, "0 without one", TapeTest::withoutFault);
        Check.promise(5, "Its place, if the latest call that may be refused was by 4", TapeTest::placeOfFault);
        Check.promise(5, "NONE else", TapeTest::noPlace);
        Check.end();
    }

    private static void nothingIsTold() {
        WrongRoom x = new WrongRoom();
        Check.due("trouble()", x.trouble(), 0);
        Check.due("fault()", x.fault(), 0);
        Check.due("where()", x.where(), -1);
        for (int what = 0; what <= 12; what++) {
            Check.due("size(" + what + ")", x.size(what), 0);
        }
        Check.ledThrows(x, 0);
    }

    private static void callsAreRefused() {
        WrongRoom x = new WrongRoom();
        Check.refused(x, "house(0, 0)", x.house(0, 0), 1);
        Check.refused(x, "open(0, 0)", x.open(0, 0), 1);
        Check.refused(x, "open(0, -1)", x.open(0, -1), 1);
        Check.refused(x, "street(0, 1)", x.street(0, 1), 1);
        Check.refused(x, "person(0, 0)", x.person(0, 0), 1);
        Check.refused(x, "candle(0)", x.candle(0), 1);
        Check.refused(x, "candleAt(0, 99)", x.candleAt(0, 99), 1);
        Check.refused(x, "mutual()", x.mutual(), 1);
        Check.refused(x, "judge()", x.judge(), 1);
        Check.refused(x, "way(0, 0, 0)", x.way(0, 0, 0), 1);
        Check.refused(x, "wayAt(0, 0, 0, 0)", x.wayAt(0, 0, 0, 0), 1);
        Check.refused(x, "saves(0, 0, 0)", x.saves(0, 0, 0), 1);
        Check.refused(x, "farthest(0, 0)", x.farthest(0, 0), 1);
        Check.refused(x, "homeIn(0)", x.homeIn(0), 1);
        Check.refused(x, "fits()", x.fits(), 1);
        Check.refused(x, "could(0)", x.could(0), 1);
        Check.refused(x, "surely(0)", x.surely(0), 1);
        Check.refused(x, "firstOf(0)", x.firstOf(0), 1);
        Check.refused(x, "ask()", x.ask(), 1);
        Check.refused(x, "askLeaves()", x.askLeaves(), 1);
        Check.refused(x, "owes(0, true)", x.owes(0, true), 1);
        Check.refused(x, "net(0, true)", x.net(0, true), Long.MIN_VALUE, 1);
        Check.refused(x, "debtor()", x.debtor(), 1);
        Check.refused(x, "paired()", x.paired(), 1);
        Check.refused(x, "fewest()", x.fewest(), 1);
        Check.refused(x, "exchangeAt(0)", x.exchangeAt(0), 1);
        Check.refused(x, "stands(-1)", x.stands(-1), 1);
        Check.refused(x, "gain(0, 0, 1, 10, true)", x.gain(0, 0, 1, 10, true), 1);
        Check.refused(x, "rests(0, 1)", x.rests(0, 1), 1);
        Check.refused(x, "rest(0, 1)", x.rest(0, 1), 1);
        Check.refused(x, "builders(-1, 0)", x.builders(-1, 0), 1);
        Check.refused(x, "builtOf(0, 0, 61)", x.builtOf(0, 0, 61), 1);
        Check.denied(x, "exchange(0, 1)", x.exchange(0, 1), 1);
        Check.denied(x, "shut(0, true)", x.shut(0, true), 1);
        Check.refused(x, "go(0, 0)", x.go(0, 0), 1);
        Check.refused(x, "waits(0, 0)", x.waits(0, 0), 1);
        Check.denied(x, "undo()", x.undo(), 6);
        Check.refused(x, "mark()", x.mark(), 1);
        Check.denied(x, "back(0)", x.back(0), 1);
    }

    private static void none() {
        Check.due("NONE", WrongRoom.NONE, -1);
    }

    private static void manyCalls() {
        WrongRoom x = new WrongRoom();
        Check.feed(x, GOOD);
        x.town(GOOD.length());
        int calls = (GOOD.length() + 19) / 20 + 1;
        int waited = 0;
        for (; calls < 511; calls++) {
            waited += 999;
            Check.due("call " + calls, x.waits(0, 999), waited);
        }
        Check.due("call 512", x.undo(), true);
        WrongRoom y = Check.town(Check.houses(4) + Check.wrongs("bcda"));
        for (int i = 0; i < 240; i++) {
            Check.due("exchange " + i, y.exchange(0, 2), true);
            Check.due("mutual() " + i, y.mutual(), i % 2 == 0 ? 15 : 0);
        }
    }

    private static void bytesComeBehind() {
        WrongRoom x = new WrongRoom();
        Check.feed(x, "town door 2 like 0; ");
        Check.feed(x, "house a rooms 3 rent");
        Check.feed(x, " 5 bill 6 smells x;h");
        Check.feed(x, "ouse b rooms 4 rent ");
        Check.feed(x, "7 bill 8 smells tea ");
        Check.due("town(100)", x.town(100), 2);
        Check.due("house(0, 1)", x.house(0, 1), 5);
        Check.due("house(1, 2)", x.house(1, 2), 8);
    }

    private static void highestFirst() {
        WrongRoom x = new WrongRoom();
        x.feed(0x746f776e, 0x20646f6f, 0x72ff2020, -1, -1);
        Check.refused(x, "town(20)", x.town(20), 4);
        Check.due("fault()", x.fault(), 1);
        Check.due("where()", x.where(), 9);
        x.feed(0x746f776e, 0x80202020, 0x20202020, 0x20202020, 0x20202020);
        Check.refused(x, "town of a number below 0", x.town(20), 4);
        Check.due("where() of a number below 0", x.where(), 4);
    }

    private static void feedCounts() {
        WrongRoom x = new WrongRoom();
        for (int n = 1; n <= 55; n++) {
            Check.due("feed " + n, x.feed(0, 0, 0, 0, 0), 20 * n);
            Check.due("size(12)", x.size(12), 20 * n);
        }
        x.town(0);
        Check.due("feed to an empty tape", x.feed(0, 0, 0, 0, 0), 20);
    }

    private static void tapeIsFull() {
        WrongRoom x = new WrongRoom();
        Check.feed(x, padded("", Check.TWO, 1100));
        Check.due("size(12)", x.size(12), 1100);
        Check.due("feed to a full tape", x.feed(-1, -1, -1, -1, -1), -1);
        Check.due("feed once more", x.feed(0, 0, 0, 0, 0), -1);
        Check.due("size(12) then", x.size(12), 1100);
        Check.due("town(1100), no byte came", x.town(1100), 2);
        Check.due("feed behind that", x.feed(0, 0, 0, 0, 0), 20);
    }

    /** A text with blanks in the midst, so that it is just so long. */
    private static String padded(String front, String rest, int length) {
        return front + " ".repeat(length - front.length() - rest.length()) + rest;
    }

    private static void allBytesAreRead() {
        WrongRoom x = Check.town(padded(Check.TWO, ";wrong a of b;sign a y", 1100));
        Check.due("judge()", x.judge(), -2);
        x = Check.town(padded(Check.TWO, ";wrong a of b;sign a z", 1100));
        Check.due("judge() by the last byte", x.judge(), 0);
        Check.fault(padded(Check.TWO, ";", 1100), 1, 1100);
        Check.fault(padded(Check.TWO, "!", 1100), 1, 1099);
        Check.fault(padded(Check.TWO, ";noise a 0", 1100), 4, 1099);
    }

    private static void firstBytes() {
        String text = Check.TWO + ";wrong a of b;sign a y";
        WrongRoom x = new WrongRoom();
        Check.feed(x, text + "es;!");
        Check.due("town of fewer bytes", x.town(text.length()), 2);
        Check.due("judge() of a WORD cut off", x.judge(), -2);
        Check.feed(x, text + "es;!");
        Check.due("town of two bytes more", x.town(text.length() + 2), 2);
        Check.due("judge() of the whole WORD", x.judge(), 0);
        Check.feed(x, text + "es;!");
        Check.refused(x, "town of three more", x.town(text.length() + 3), 4);
        Check.due("where() of three more", x.where(), text.length() + 3);
    }

    private static void tapeIsEmptyThen() {
        WrongRoom x = new WrongRoom();
        Check.feed(x, Check.TWO + " ".repeat(40));
        Check.due("town", x.town(Check.TWO.length()), 2);
        Check.due("size(12)", x.size(12), 0);
        Check.refused(x, "town(1)", x.town(1), 2);
        Check.feed(x, "town door 0" + " ".repeat(40));
        Check.refused(x, "town(11)", x.town(11), 4);
        Check.due("size(12) behind a FAULT", x.size(12), 0);
        Check.feed(x, Check.TWO);
        Check.due("town again", x.town(Check.TWO.length()), 2);
    }

    private static void fromNowOn() {
        WrongRoom x = Check.town(Check.houses(7) + Check.wrongs("bcdefga") + ";open a from 1 to 2;street a g minutes 5"
                + ";person p home a at b;sign a x;noise a 1");
        Check.due("another town", Check.tell(x, Check.TWO.replace("door 2 like 0", "door 9 like 8")), 2);
        int[] due = {9, 8, 2, 0, 0, 0, 0, 0, 0, 0, 0, 0, 0};
        for (int what = 0; what < due.length; what++) {
            Check.due("size(" + what + ")", x.size(what), due[what]);
        }
        Check.due("street(0, 1)", x.street(0, 1), -2);
        Check.due("house(1, 0)", x.house(1, 0), 5);
        Check.refused(x, "house(2, 0)", x.house(2, 0), 1);
        Check.refused(x, "person(0, 0)", x.person(0, 0), 1);
        Check.due("judge()", x.judge(), -2);
        Check.due("fits()", x.fits(), 1);
    }

    /** Nothing of a text, with a FAULT or without one, is left for those behind it. */
    private static void townByTown() {
        String rich = Check.houses(6).replace("door 2 like 0", "door 9 like 9") + Check.wrongs("bcdefa")
                + ";open a from 1 to 2;open b from 1 to 2;street a b minutes 5;street f c minutes 6"
                + ";person p home a at b;person q home a at b;sign a z;sign b z;noise a 9;noise b 9";
        String plain = Check.TOWN + ";" + Check.house("p", 3, 0, "x") + ";" + Check.house("q", 3, 0, "x") + ";"
                + Check.house("r", 3, 0, "x");
        WrongRoom x = new WrongRoom();
        for (int i = 0; i < 4; i++) {
            if (i % 2 == 0) {
                Check.refused(x, "a rich text with a FAULT", Check.tell(x, rich + ";!"), 4);
            } else {
                Check.answered(x, "a rich text", Check.tell(x, rich), 6);
                Check.refused(x, "a rich text with a FAULT", Check.tell(x, rich + ";!"), 4);
                Check.answered(x, "a rich text again", Check.tell(x, rich), 6);
            }
            Check.answered(x, "a plain text", Check.tell(x, plain), 3);
            int[] due = {2, 0, 3, 0, 0, 0, 0, 0, 0, 0, 0, 0, 0};
            for (int what = 0; what < due.length; what++) {
                Check.due("size(" + what + ") of it", x.size(what), due[what]);
            }
            Check.due("street(0, 1) of it", x.street(0, 1), -2);
            Check.due("house(0, 3) of it", x.house(0, 3), -2);
            Check.due("judge() of it", x.judge(), -2);
            Check.due("fits() of it", x.fits(), 2);
            Check.due("stands(99) of it", x.stands(99), 7);
            Check.due("way(0, 1, 0) of it", x.way(0, 1, 0), -2);
        }
    }

    private static void roomsAsTold() {
        String text = Check.houses(5) + Check.wrongs("bcda.") + ";street a b minutes 4;person p home a at b";
        WrongRoom x = Check.town(text);
        x.exchange(0, 2);
        x.go(0, 0);
        Check.due("town", Check.tell(x, text), 5);
        int[] due = {1, 2, 3, 0, -2};
        for (int h = 0; h < due.length; h++) {
            Check.due("house(" + h + ", 3)", x.house(h, 3), due[h]);
        }
        Check.due("person(0, 1)", x.person(0, 1), 1);
        Check.due("person(0, 2)", x.person(0, 2), 0);
    }

    private static void noDoorShut() {
        WrongRoom x = Check.town(GOOD);
        x.shut(0, true);
        x.shut(1, true);
        Check.due("town", Check.tell(x, GOOD), 2);
        Check.due("size(9)", x.size(9), 0);
        Check.due("house(0, 5)", x.house(0, 5), 0);
        Check.due("open(0, 0)", x.open(0, 0), 1);
    }

    private static void nothingToUndo() {
        WrongRoom x = Check.town(GOOD);
        x.waits(0, 5);
        Check.due("town", Check.tell(x, GOOD), 2);
        Check.due("size(10)", x.size(10), 0);
        Check.denied(x, "undo()", x.undo(), 6);
    }

    private static void noMarks() {
        WrongRoom x = Check.town(GOOD);
        for (int i = 0; i < 3; i++) {
            x.mark();
        }
        Check.due("town", Check.tell(x, GOOD), 2);
        Check.due("size(11)", x.size(11), 0);
        Check.denied(x, "back(0)", x.back(0), 1);
        Check.due("mark()", x.mark(), 0);
    }

    private static void howManyHouses() {
        for (int n = 2; n <= 7; n++) {
            WrongRoom x = new WrongRoom();
            Check.answered(x, "town of " + n, Check.tell(x, Check.houses(n)), n);
        }
    }

    private static void tooManyBytes() {
        WrongRoom x = new WrongRoom();
        Check.feed(x, Check.TWO);
        int bytes = x.size(12);
        Check.refused(x, "town of a byte more", x.town(bytes + 1), 2);
        Check.refused(x, "town(1101)", x.town(1101), 2);
        Check.refused(x, "town(MAX)", x.town(Integer.MAX_VALUE), 2);
        Check.due("size(12)", x.size(12), bytes);
        Check.due("town of all of it", x.town(bytes), 2);
    }

    private static void tooFewBytes() {
        WrongRoom x = new WrongRoom();
        Check.feed(x, Check.TWO);
        int bytes = x.size(12);
        Check.refused(x, "town(-1)", x.town(-1), 2);
        Check.refused(x, "town(MIN)", x.town(Integer.MIN_VALUE), 2);
        Check.due("size(12)", x.size(12), bytes);
        Check.due("town", x.town(Check.TWO.length()), 2);
    }

    private static void emptyTape() {
        WrongRoom x = new WrongRoom();
        Check.refused(x, "town(1)", x.town(1), 2);
        Check.refused(x, "town(0)", x.town(0), 4);
        Check.due("fault()", x.fault(), 1);
        Check.due("where()", x.where(), 0);
    }

    private static void townStays() {
        WrongRoom x = Check.town(Check.houses(4) + Check.wrongs("bcda") + ";person p home a at b");
        x.exchange(0, 2);
        x.shut(0, true);
        x.waits(0, 5);
        x.mark();
        String before = Check.state(x);
        Check.refused(x, "a town with a FAULT at its end", Check.tell(x, Check.houses(7) + ";"), 4);
        Check.unchanged(x, "a town with a FAULT", before);
        Check.due("fits()", x.fits(), 1);
        Check.due("undo()", x.undo(), true);
        Check.due("person(0, 2)", x.person(0, 2), 0);
        Check.due("back(0)", x.back(0), true);
        Check.due("person(0, 2) by the MARK", x.person(0, 2), 5);
    }

    private static void noTownStays() {
        WrongRoom x = new WrongRoom();
        Check.refused(x, "a town with a FAULT at its end", Check.tell(x, Check.TWO + ";"), 4);
        Check.due("size(2)", x.size(2), 0);
        Check.due("size(0)", x.size(0), 0);
        Check.refused(x, "house(0, 0)", x.house(0, 0), 1);
        Check.refused(x, "mutual()", x.mutual(), 1);
    }

    private static void latestFault() {
        WrongRoom x = new WrongRoom();
        Check.tell(x, "town door 10");
        Check.due("fault()", x.fault(), 4);
        x.town(99);
        Check.due("fault() behind a 2", x.fault(), 4);
        x.town(-1);
        Check.due("fault() behind another 2", x.fault(), 4);
        x.mutual();
        Check.due("fault() behind a 1", x.fault(), 4);
        x.town(0);
        Check.due("fault() of nothing", x.fault(), 1);
        Check.tell(x, Check.TWO + ";town");
        Check.due("fault() of a second town", x.fault(), 3);
    }

    private static void withoutFault() {
        WrongRoom x = new WrongRoom();
        Check.due("fault() of a new object", x.fault(), 0);
        x.town(5);
        Check.due("fault() behind a 2 alone", x.fault(), 0);
        Check.tell(x, "town door 10");
        Check.tell(x, Check.TWO);
        Check.due("fault() of a town", x.fault(), 0);
        x.town(5);
        Check.due("fault() of a town and a 2", x.fault(), 0);
    }

    private static void placeOfFault() {
        WrongRoom x = new WrongRoom();
        Check.tell(x, "town door 10");
        Check.due("where()", x.where(), 10);
        x.size(0);
        x.feed(0, 0, 0, 0, 0);
        x.fault();
        x.trouble();
        Check.ledThrows(x, 0);
        Check.due("where() behind calls that no number can refuse", x.where(), 10);
        x.town(0);
        Check.due("where() of the first byte", x.where(), 0);
    }

    private static void noPlace() {
        WrongRoom x = new WrongRoom();
        Check.due("where() of a new object", x.where(), -1);
        Check.tell(x, "town door 10");
        x.town(99);
        Check.due("where() behind a 2", x.where(), -1);
        Check.tell(x, "town door 10");
        x.mutual();
        Check.due("where() behind a 1", x.where(), -1);
        Check.tell(x, "town door 10");
        x.undo();
        Check.due("where() behind a 6", x.where(), -1);
        Check.tell(x, Check.TWO);
        Check.due("where() of a town", x.where(), -1);
        Check.tell(x, Check.TWO + ";");
        Check.due("where() of a FAULT", x.where(), Check.TWO.length() + 1);
        x.house(1, 0);
        Check.due("where() behind a call that is answered", x.where(), -1);
        Check.due("fault() behind that", x.fault(), 1);
    }
}
