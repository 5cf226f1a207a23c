/** Promises 44 to 46: led, size, trouble. */
final class ToldTest {
    private static final int MIN = Integer.MIN_VALUE;
    private static final int MAX = Integer.MAX_VALUE;
    private static final String PEOPLE = ";street a b minutes 1;person p home a at b;person q home b at b"
            + ";person r home a at a;person s home b at a";

    private ToldTest() {
    }

    public static void main(String[] args) {
        led();
        size();
        trouble();
        Check.end();
    }

    private static void led() {
        Check.promise(44, "The i-th person, by numbers, who is at home NOW.", ToldTest::atHome);
        Check.promise(44, "who is at home NOW", ToldTest::atHomeNow);
        Check.promise(44, "NoSuchElementException if there is none such.", ToldTest::noneSuch);
        Check.promise(44, "NoSuchElementException if there is none such.", ToldTest::nobodyAtAll);
    }

    private static void size() {
        Check.promise(45, "0 door, 1 like, 2 houses, 3 wrong rooms known, 4 hours told, 5 streets, 6 people, 7 signs,"
                + " 8 noises, 9 DOORS SHUT NOW, 10 ACTS that can be undone, 11 MARKS, 12 bytes of THE TAPE.",
                ToldTest::sizes);
        Check.promise(45, "0 door, 1 like, 2 houses", ToldTest::fullSizes);
        Check.promise(45, "9 DOORS SHUT NOW, 10 ACTS that can be undone, 11 MARKS, 12 bytes of THE TAPE.",
                ToldTest::fullActs);
        Check.promise(45, "NONE for others", ToldTest::otherSizes);
        Check.promise(45, "0 for what there isn't.", ToldTest::whatThereIsNot);
    }

    private static void trouble() {
        Check.promise(46, "TROUBLE.", ToldTest::troubles);
        Check.promise(46, "IV. TROUBLE of the latest call that may be refused (those of which a number is told here):",
                ToldTest::callsWithoutNumber);
        Check.promise(46, "0 it wasn't", ToldTest::itWasNot);
        Check.promise(46, "0 it wasn't", ToldTest::minusTwoIsNoTrouble);
        Check.promise(46, "1 there is none such; 2 a number; 3 no room; 4 a FAULT; 5 not so; 6 there is none.",
                ToldTest::troubles);
        Check.promise(46, "of the latest call that may be refused", ToldTest::atFirst);
    }

    private static void atHome() {
        WrongRoom x = Check.town(Check.houses(2) + PEOPLE);
        Check.due("led(0)", x.led(0), 1);
        Check.due("led(1)", x.led(1), 2);
        Check.ledThrows(x, 2);
    }

    private static void atHomeNow() {
        WrongRoom x = Check.town(Check.houses(2) + PEOPLE);
        x.go(0, 0);
        Check.due("led(0), he came home", x.led(0), 0);
        Check.due("led(2)", x.led(2), 2);
        Check.ledThrows(x, 3);
        x.go(3, 1);
        Check.due("led(3), all are at home", x.led(3), 3);
        Check.ledThrows(x, 4);
        x.go(1, 0);
        Check.due("led(1), one went", x.led(1), 2);
        Check.ledThrows(x, 3);
        x.undo();
        Check.due("led(1), undone", x.led(1), 1);
    }

    private static void noneSuch() {
        WrongRoom x = Check.town(Check.houses(2) + PEOPLE);
        for (int i : new int[] {-1, 2, 3, 4, MIN, MAX}) {
            Check.ledThrows(x, i);
        }
        Check.due("led(0) behind that", x.led(0), 1);
    }

    private static void nobodyAtAll() {
        Check.ledThrows(new WrongRoom(), 0);
        Check.ledThrows(new WrongRoom(), -1);
        Check.ledThrows(Check.town(Check.houses(2)), 0);
        Check.ledThrows(Check.town(Check.houses(2) + ";person p home a at b"), 0);
        Check.ledThrows(Check.town(Check.houses(2) + ";person p home a at b"), -1);
    }

    private static void sizes() {
        String text = "town door 7 like 6;house a rooms 1 rent 1 bill 1 smells x;house b rooms 1 rent 1 bill 1 smells x"
                + ";house c rooms 1 rent 1 bill 1 smells x;house d rooms 1 rent 1 bill 1 smells x"
                + Check.wrongs("bcd.") + ";open a from 1 to 2;open d from 0 to 23;street a b minutes 1"
                + ";person p home a at b;sign a x;sign a x;sign d x;noise a 1;noise b 1";
        WrongRoom x = Check.town(text);
        x.shut(0, true);
        x.shut(3, true);
        x.waits(0, 3);
        x.mark();
        x.feed(0, 0, 0, 0, 0);
        int[] due = {7, 6, 4, 3, 2, 1, 1, 3, 2, 2, 3, 1, 20};
        for (int what = 0; what < due.length; what++) {
            Check.due("size(" + what + ")", x.size(what), due[what]);
        }
        x.exchange(0, 2);
        Check.due("size(3), as many are known NOW", x.size(3), 3);
    }

    private static void fullSizes() {
        StringBuilder text = new StringBuilder("town door 9 like 9");
        for (char c = 'a'; c <= 'g'; c++) {
            text.append(";house ").append(c).append(" rooms 9 rent 9 bill 9 smells x");
        }
        for (char c = 'a'; c <= 'g'; c++) {
            text.append(";open ").append(c).append(" from 0 to 23");
        }
        for (String pair : new String[] {"a b", "a c", "a d", "a e", "a f", "a g", "b c", "b d", "b e", "b f"}) {
            text.append(";street ").append(pair).append(" minutes 9");
        }
        WrongRoom x = Check.town(text + ";noise a 1".repeat(4) + ";sign a x".repeat(8));
        int[] due = {9, 9, 7, 0, 7, 10, 0, 8, 4};
        for (int what = 0; what < due.length; what++) {
            Check.due("size(" + what + ")", x.size(what), due[what]);
        }
        WrongRoom y = Check.town(Check.houses(7) + Check.wrongs("bcdefga") + ";person p home a at b;person q home a at b"
                + ";person r home a at b;person s home a at b");
        Check.due("size(3)", y.size(3), 7);
        Check.due("size(6)", y.size(6), 4);
    }

    private static void fullActs() {
        WrongRoom x = Check.town(Check.houses(7));
        for (int h = 0; h < 7; h++) {
            x.shut(h, true);
            Check.due("size(9)", x.size(9), h + 1);
        }
        for (int i = 0; i < 20; i++) {
            x.shut(0, i % 2 != 0);
            x.mark();
        }
        Check.due("size(10)", x.size(10), 16);
        Check.due("size(11)", x.size(11), 3);
        for (int i = 0; i < 60; i++) {
            x.feed(0, 0, 0, 0, 0);
        }
        Check.due("size(12)", x.size(12), 1100);
        x.back(0);
        Check.due("size(12), no MARK takes bytes", x.size(12), 1100);
    }

    private static void otherSizes() {
        for (WrongRoom x : new WrongRoom[] {new WrongRoom(), Check.town(Check.houses(2))}) {
            for (int what : new int[] {-1, 13, 14, MIN, MAX}) {
                Check.due("size(" + what + ")", x.size(what), -1);
            }
        }
    }

    private static void whatThereIsNot() {
        WrongRoom x = new WrongRoom();
        for (int what = 0; what <= 12; what++) {
            Check.due("size(" + what + ") of a new object", x.size(what), 0);
        }
        WrongRoom y = Check.town(Check.houses(2));
        for (int what = 3; what <= 12; what++) {
            Check.due("size(" + what + ") of two houses", y.size(what), 0);
        }
        Check.due("size(1) of like 0", y.size(1), 0);
    }

    private static void troubles() {
        WrongRoom x = Check.town(Check.houses(2));
        x.waits(0, 5);
        Check.due("trouble() of none such", x.trouble(), 1);
        x.town(99);
        Check.due("trouble() of a number", x.trouble(), 2);
        for (int i = 0; i < 4; i++) {
            x.mark();
        }
        Check.due("trouble() of no room", x.trouble(), 3);
        x.town(0);
        Check.due("trouble() of a FAULT", x.trouble(), 4);
        x.shut(0, false);
        Check.due("trouble() of not so", x.trouble(), 5);
        x.undo();
        Check.due("trouble() of none", x.trouble(), 6);
        Check.due("trouble() asked again", x.trouble(), 6);
    }

    private static void callsWithoutNumber() {
        WrongRoom x = Check.town(Check.houses(2) + PEOPLE);
        x.undo();
        x.size(-1);
        x.size(2);
        x.fault();
        x.where();
        x.led(0);
        Check.ledThrows(x, 9);
        for (int i = 0; i < 56; i++) {
            x.feed(0, 0, 0, 0, 0);
        }
        x.trouble();
        Check.due("trouble()", x.trouble(), 6);
    }

    /** Each call that may be refused, and isn't, behind one that is. */
    private static void itWasNot() {
        WrongRoom x = Check.town(Check.houses(4) + Check.wrongs("bcda") + ";person p home a at b");
        Runnable[] calls = {() -> x.house(0, 0), () -> x.open(0, 0), () -> x.street(0, 1), () -> x.person(0, 0),
            () -> x.candle(0), () -> x.candleAt(0, 0), () -> x.mutual(), () -> x.judge(), () -> x.way(0, 1, 0),
            () -> x.wayAt(0, 1, 0, 0), () -> x.saves(0, 1, 0), () -> x.farthest(0, 0), () -> x.homeIn(0),
            () -> x.fits(), () -> x.could(0), () -> x.surely(0), () -> x.firstOf(0), () -> x.ask(),
            () -> x.askLeaves(), () -> x.owes(0, true), () -> x.net(0, true), () -> x.debtor(), () -> x.paired(),
            () -> x.fewest(), () -> x.exchangeAt(0), () -> x.stands(0), () -> x.gain(0, 0, 1, 0, true),
            () -> x.rests(0, 1), () -> x.rest(0, 1), () -> x.builders(0, 0), () -> x.builtOf(0, 0, 0),
            () -> x.exchange(0, 2), () -> x.shut(0, true), () -> x.go(0, 2), () -> x.waits(0, 1), () -> x.undo(),
            () -> x.mark(), () -> x.back(0), () -> Check.tell(x, Check.houses(2))};
        for (int i = 0; i < calls.length; i++) {
            x.house(-1, 0);
            Check.due("trouble() of a refused call", x.trouble(), 1);
            calls[i].run();
            Check.due("trouble() of call " + i, x.trouble(), 0);
        }
    }

    private static void minusTwoIsNoTrouble() {
        WrongRoom x = Check.town(Check.houses(3) + ";person p home a at b;sign a z");
        x.undo();
        Check.answered(x, "house(0, 3)", x.house(0, 3), -2);
        x.undo();
        Check.answered(x, "way(0, 1, 0)", x.way(0, 1, 0), -2);
        x.undo();
        Check.answered(x, "homeIn(0)", x.homeIn(0), -2);
        x.undo();
        Check.answered(x, "ask()", x.ask(), -2);
        x.undo();
        Check.answered(x, "debtor()", x.debtor(), -2);
        x.undo();
        Check.answered(x, "builtOf(0, 0, 1)", x.builtOf(0, 0, 1), -2);
        x.undo();
        Check.answered(x, "net(0, false)", x.net(0, false), 0);
    }

    private static void atFirst() {
        WrongRoom x = new WrongRoom();
        Check.due("trouble() of a new object", x.trouble(), 0);
        x.feed(0, 0, 0, 0, 0);
        Check.due("trouble() behind feed", x.trouble(), 0);
    }
}
