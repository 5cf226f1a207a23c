/** Promises 1 to 5: a new object, feed, town, fault, where. */
final class TapeTest {
    private TapeTest() {
    }

    public static void main(String[] args) {
        newObject();
        feedFillsTheTape();
        bytesComeHighestFirst();
        townTakesTheTape();
        faultAndWhere();
        townBeginsAnew();
        Check.end();
    }

    private static void newObject() {
        WrongRoom x = new WrongRoom();
        Check.due("NONE", WrongRoom.NONE, -1);
        Check.due("trouble() at first", x.trouble(), 0);
        Check.due("fault() at first", x.fault(), 0);
        Check.due("where() at first", x.where(), -1);
        for (int what = 0; what <= 12; what++) {
            Check.due("size(" + what + ") at first", x.size(what), 0);
        }
        Check.ledThrows(x, 0);
        Check.refused(x, "house(0, 0)", x.house(0, 0), 1);
        Check.refused(x, "open(0, 0)", x.open(0, 0), 1);
        Check.refused(x, "open(0, -1)", x.open(0, -1), 1);
        Check.refused(x, "street(0, 1)", x.street(0, 1), 1);
        Check.refused(x, "person(0, 0)", x.person(0, 0), 1);
        Check.refused(x, "candle(0)", x.candle(0), 1);
        Check.refused(x, "candleAt(0, 99)", x.candleAt(0, 99), 1);
        Check.refused(x, "mutual()", x.mutual(), 1);
        Check.refused(x, "judge()", x.judge(), 1);
        Check.refused(x, "way(0, 0, 0)", x.way(0, 0, 0), 1);
        Check.refused(x, "wayAt(0, 0, 0, 0)", x.wayAt(0, 0, 0, 0), 1);
        Check.refused(x, "saves(0, 0, 0)", x.saves(0, 0, 0), 1);
        Check.refused(x, "farthest(0, 0)", x.farthest(0, 0), 1);
        Check.refused(x, "homeIn(0)", x.homeIn(0), 1);
        Check.refused(x, "fits()", x.fits(), 1);
        Check.refused(x, "could(0)", x.could(0), 1);
        Check.refused(x, "surely(0)", x.surely(0), 1);
        Check.refused(x, "firstOf(0)", x.firstOf(0), 1);
        Check.refused(x, "ask()", x.ask(), 1);
        Check.refused(x, "askLeaves()", x.askLeaves(), 1);
        Check.refused(x, "owes(0, true)", x.owes(0, true), 1);
        Check.refused(x, "net(0, true)", x.net(0, true), Long.MIN_VALUE, 1);
        Check.refused(x, "debtor()", x.debtor(), 1);
        Check.refused(x, "paired()", x.paired(), 1);
        Check.refused(x, "fewest()", x.fewest(), 1);
        Check.refused(x, "exchangeAt(0)", x.exchangeAt(0), 1);
        Check.refused(x, "stands(-1)", x.stands(-1), 1);
        Check.refused(x, "gain(0, 0, 1, 10, true)", x.gain(0, 0, 1, 10, true), 1);
        Check.refused(x, "rests(0, 1)", x.rests(0, 1), 1);
        Check.refused(x, "rest(0, 1)", x.rest(0, 1), 1);
        Check.refused(x, "builders(-1, 0)", x.builders(-1, 0), 1);
        Check.refused(x, "builtOf(0, 0, 61)", x.builtOf(0, 0, 61), 1);
        Check.denied(x, "exchange(0, 1)", x.exchange(0, 1), 1);
        Check.denied(x, "shut(0, true)", x.shut(0, true), 1);
        Check.refused(x, "go(0, 0)", x.go(0, 0), 1);
        Check.refused(x, "waits(0, 0)", x.waits(0, 0), 1);
        Check.denied(x, "undo()", x.undo(), 6);
        Check.refused(x, "mark()", x.mark(), 1);
        Check.denied(x, "back(0)", x.back(0), 1);
    }

    private static void feedFillsTheTape() {
        WrongRoom x = new WrongRoom();
        for (int n = 1; n <= 55; n++) {
            Check.due("feed " + n, x.feed(0, 0, 0, 0, 0), 20 * n);
        }
        x.undo();
        Check.due("feed 56", x.feed(0, 0, 0, 0, 0), -1);
        Check.due("trouble() is not of feed", x.trouble(), 6);
        Check.due("size(12)", x.size(12), 1100);
        Check.refused(x, "town(1101)", x.town(1101), 2);
        Check.refused(x, "town(1100)", x.town(1100), 4);
        Check.due("size(12) behind", x.size(12), 0);
        Check.due("feed behind", x.feed(0, 0, 0, 0, 0), 20);
    }

    private static void bytesComeHighestFirst() {
        WrongRoom x = new WrongRoom();
        x.feed(0x746f776e, 0x20646f6f, 0x72ff2020, -1, -1);
        Check.refused(x, "town(20)", x.town(20), 4);
        Check.due("fault()", x.fault(), 1);
        Check.due("where()", x.where(), 9);
    }

    private static void townTakesTheTape() {
        WrongRoom x = new WrongRoom();
        Check.feed(x, Check.TWO);
        int bytes = x.size(12);
        Check.refused(x, "town(-1)", x.town(-1), 2);
        Check.refused(x, "town of more", x.town(bytes + 1), 2);
        Check.refused(x, "town(MAX)", x.town(Integer.MAX_VALUE), 2);
        Check.due("the tape stays", x.size(12), bytes);
        Check.due("where() by 2", x.where(), -1);
        Check.due("town", x.town(Check.TWO.length()), 2);
        Check.due("trouble()", x.trouble(), 0);
        Check.due("the tape is empty", x.size(12), 0);
    }

    private static void faultAndWhere() {
        WrongRoom x = new WrongRoom();
        Check.tell(x, "town door 10");
        Check.due("fault()", x.fault(), 4);
        Check.due("where()", x.where(), 10);
        x.size(0);
        x.feed(0, 0, 0, 0, 0);
        Check.due("where() behind calls that can't be refused", x.where(), 10);
        x.town(99);
        Check.due("fault() behind a 2", x.fault(), 4);
        Check.due("where() behind a 2", x.where(), -1);
        x.town(0);
        Check.due("fault() of nothing", x.fault(), 1);
        Check.due("where() of nothing", x.where(), 0);
        Check.tell(x, Check.TWO);
        Check.due("fault() of a town", x.fault(), 0);
        Check.due("where() of a town", x.where(), -1);
        Check.tell(x, Check.TWO + ";");
        Check.due("fault() of its end", x.fault(), 1);
        Check.due("where() of its end", x.where(), Check.TWO.length() + 1);
        Check.due("the town stays", x.house(1, 0), 5);
        Check.due("where() behind a call", x.where(), -1);
        Check.due("fault() behind a call", x.fault(), 1);
    }

    private static void townBeginsAnew() {
        String text = Check.TWO + ";wrong a of b;person p home a at b";
        WrongRoom x = Check.town(text);
        x.shut(0, true);
        x.waits(0, 5);
        x.mark();
        Check.refused(x, "a town with a fault", Check.tell(x, "town door 1;"), 4);
        Check.due("shut stays", x.size(9), 1);
        Check.due("acts stay", x.size(10), 2);
        Check.due("marks stay", x.size(11), 1);
        Check.due("minutes stay", x.person(0, 2), 5);
        Check.due("town", Check.tell(x, text), 2);
        Check.due("no door is shut", x.size(9), 0);
        Check.due("nothing to undo", x.size(10), 0);
        Check.due("no marks", x.size(11), 0);
        Check.due("minutes are 0", x.person(0, 2), 0);
        Check.denied(x, "undo()", x.undo(), 6);
        Check.denied(x, "back(0)", x.back(0), 1);
        Check.due("a smaller town", Check.tell(x, Check.TWO), 2);
        Check.due("its rooms", x.house(0, 3), -2);
        Check.due("its people", x.size(6), 0);
    }
}
