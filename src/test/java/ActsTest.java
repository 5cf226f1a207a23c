/** Promises 37 to 43: exchange, shut, go, waits, undo, mark, back. */
final class ActsTest {
    private static final int MIN = Integer.MIN_VALUE;
    private static final int MAX = Integer.MAX_VALUE;
    private static final String PEOPLE = ";person p home a at a;person q home b at c";

    private ActsTest() {
    }

    public static void main(String[] args) {
        exchange();
        shut();
        go();
        waits();
        undo();
        mark();
        back();
        Check.end();
    }

    private static void exchange() {
        Check.promise(37, "EXCHANGE: true", ActsTest::exchanged);
        Check.promise(37, "EXCHANGE of two houses: their wrong rooms are each of the house of which the other's was",
                ActsTest::roomsOfOthers);
        Check.promise(37, "(known ones; not if one's would be its own then)", ActsTest::bothWaysAround);
        Check.promise(37, "false: 1 (unlike)", ActsTest::exchangeOfNoHouses);
        Check.promise(37, "5 (one isn't known, would be its own)", ActsTest::exchangeOfUnknown);
        Check.promise(37, "5 (one isn't known, would be its own)", ActsTest::exchangeToItsOwn);
    }

    private static void shut() {
        Check.promise(38, "SHUT, or not (not is): true", ActsTest::shutAndOpened);
        Check.promise(38, "SHUT, or not (not is): true", ActsTest::unknownDoorShut);
        Check.promise(38, "false: 1", ActsTest::shutOfNoHouse);
        Check.promise(38, "5 (it is so)", ActsTest::shutAlready);
    }

    private static void go() {
        Check.promise(39, "GO: his minutes then.", ActsTest::minutesThen);
        Check.promise(39, "GO (a person, by a street or a DOOR, to a house: the lesser minutes of those there are NOW)",
                ActsTest::lesserMinutes);
        Check.promise(39, "those there are NOW", ActsTest::doorOfThatMinute);
        Check.promise(39, "those there are NOW", ActsTest::doorOfTheNextDay);
        Check.promise(39, "NONE: 1", ActsTest::goOfNoOne);
        Check.promise(39, "5 (he is there", ActsTest::heIsThere);
        Check.promise(39, "can't go there NOW)", ActsTest::cantGoThere);
    }

    private static void waits() {
        Check.promise(40, "WAIT (1 .. 999): his minutes then.", ActsTest::leastAndMostWait);
        Check.promise(40, "NONE: 1; 2.", ActsTest::waitsOfNoOne);
        Check.promise(40, "NONE: 1; 2.", ActsTest::waitsNoTime);
    }

    private static void undo() {
        Check.promise(41, "ACTS: EXCHANGE, SHUT a DOOR, or open it, GO (a person, by a street or a DOOR, to a house: the"
                + " lesser minutes of those there are NOW), WAIT.", ActsTest::undoEach);
        Check.promise(41, "UNDO: true", ActsTest::undoneAndDoneAgain);
        Check.promise(41, "false: 6.", ActsTest::nothingToUndo);
        Check.promise(41, "UNDO: the latest (16 are kept).", ActsTest::sixteenAreKept);
        Check.promise(41, "UNDO: the latest (16 are kept).", ActsTest::sixteenThenFifteen);
        Check.promise(41, "UNDO: the latest", ActsTest::refusedIsNoAct);
    }

    private static void mark() {
        Check.promise(42, "A MARK: its number.", ActsTest::numbersOfMarks);
        Check.promise(42, "A MARK: its number.", ActsTest::markIsNoAct);
        Check.promise(42, "NONE: 1 (no TOWN)", ActsTest::markWithoutTown);
        Check.promise(42, "; 3.", ActsTest::noRoomForMarks);
        Check.promise(42, "MARKS: up to 3;", ActsTest::noRoomForMarks);
    }

    private static void back() {
        Check.promise(43, "All is as by a MARK", ActsTest::allIsAsByMark);
        Check.promise(43, "(all MARKS stay): true", ActsTest::allMarksStay);
        Check.promise(43, "gone back to one, nothing can be undone.", ActsTest::nothingUndoneBehindBack);
        Check.promise(43, "false: 1.", ActsTest::noSuchMark);
    }

    private static WrongRoom town() {
        return Check.town(Check.houses(4) + Check.wrongs("bcda") + ";street a b minutes 1" + PEOPLE);
    }

    private static void exchanged() {
        WrongRoom x = town();
        Check.answered(x, "exchange(0, 2)", x.exchange(0, 2) ? 1 : 0, 1);
        Check.due("size(10)", x.size(10), 1);
        Check.due("size(3)", x.size(3), 4);
    }

    private static void roomsOfOthers() {
        WrongRoom x = Check.town(Check.houses(7) + Check.wrongs("bcdefga"));
        x.exchange(6, 2);
        int[] due = {1, 2, 0, 4, 5, 6, 3};
        for (int h = 0; h < 7; h++) {
            Check.due("house(" + h + ", 3)", x.house(h, 3), due[h]);
            Check.due("house(" + due[h] + ", 4)", x.house(due[h], 4), h);
        }
    }

    private static void bothWaysAround() {
        WrongRoom x = town();
        WrongRoom y = town();
        Check.due("exchange(2, 0)", x.exchange(2, 0), true);
        Check.due("exchange(0, 2)", y.exchange(0, 2), true);
        Check.due("both are alike", Check.state(x).equals(Check.state(y)), true);
        Check.due("exchange(0, 2) back", x.exchange(0, 2), true);
        Check.due("house(0, 3) as told", x.house(0, 3), 1);
    }

    private static void exchangeOfNoHouses() {
        WrongRoom x = town();
        String before = Check.state(x);
        for (int h = 0; h < 4; h++) {
            Check.denied(x, "exchange(" + h + ", " + h + ")", x.exchange(h, h), 1);
        }
        for (int h : new int[] {-1, 4, 7, MIN, MAX}) {
            Check.denied(x, "exchange(0, " + h + ")", x.exchange(0, h), 1);
            Check.denied(x, "exchange(" + h + ", 0)", x.exchange(h, 0), 1);
            Check.denied(x, "exchange(" + h + ", " + h + ")", x.exchange(h, h), 1);
        }
        Check.unchanged(x, "refused ones", before);
    }

    private static void exchangeOfUnknown() {
        WrongRoom x = Check.town(Check.houses(5) + Check.wrongs("bcd.."));
        String before = Check.state(x);
        Check.denied(x, "exchange(0, 4)", x.exchange(0, 4), 5);
        Check.denied(x, "exchange(4, 0)", x.exchange(4, 0), 5);
        Check.denied(x, "exchange(3, 4), both", x.exchange(3, 4), 5);
        Check.unchanged(x, "refused ones", before);
    }

    private static void exchangeToItsOwn() {
        WrongRoom y = Check.town(Check.houses(3) + Check.wrongs("bc."));
        String before = Check.state(y);
        Check.denied(y, "exchange(0, 1), the second's own", y.exchange(0, 1), 5);
        Check.denied(y, "exchange(1, 0), the first's own", y.exchange(1, 0), 5);
        Check.unchanged(y, "refused ones", before);
        WrongRoom each = Check.town(Check.houses(2) + Check.wrongs("ba"));
        Check.denied(each, "exchange(0, 1), both's own", each.exchange(0, 1), 5);
    }

    private static void shutAndOpened() {
        WrongRoom x = town();
        Check.answered(x, "shut(0, true)", x.shut(0, true) ? 1 : 0, 1);
        Check.due("house(0, 5)", x.house(0, 5), 1);
        Check.answered(x, "shut(3, true)", x.shut(3, true) ? 1 : 0, 1);
        Check.due("size(9)", x.size(9), 2);
        Check.answered(x, "shut(0, false)", x.shut(0, false) ? 1 : 0, 1);
        Check.due("house(0, 5)", x.house(0, 5), 0);
        Check.due("house(3, 5)", x.house(3, 5), 1);
        Check.due("size(10)", x.size(10), 3);
        x.exchange(3, 1);
        Check.due("house(3, 5), it is SHUT whosever it is", x.house(3, 5), 1);
    }

    private static void unknownDoorShut() {
        WrongRoom x = Check.town(Check.houses(3) + Check.wrongs("bc."));
        Check.answered(x, "shut(2, true)", x.shut(2, true) ? 1 : 0, 1);
        Check.due("house(2, 5)", x.house(2, 5), 1);
        Check.due("size(9)", x.size(9), 1);
    }

    private static void shutOfNoHouse() {
        WrongRoom x = town();
        for (int h : new int[] {-1, 4, 7, 32, MIN, MAX}) {
            Check.denied(x, "shut(" + h + ", true)", x.shut(h, true), 1);
            Check.denied(x, "shut(" + h + ", false)", x.shut(h, false), 1);
        }
        Check.due("size(9)", x.size(9), 0);
        Check.due("size(10)", x.size(10), 0);
    }

    private static void shutAlready() {
        WrongRoom x = town();
        Check.denied(x, "shut(0, false)", x.shut(0, false), 5);
        x.shut(0, true);
        Check.denied(x, "shut(0, true) again", x.shut(0, true), 5);
        Check.due("house(0, 5)", x.house(0, 5), 1);
        Check.due("size(10)", x.size(10), 1);
    }

    private static void minutesThen() {
        WrongRoom x = Check.town(Check.houses(4) + Check.wrongs("bc..") + ";street a c minutes 99;street a b minutes 1"
                + PEOPLE);
        Check.answered(x, "go(0, 1)", x.go(0, 1), 1);
        Check.answered(x, "go(0, 2)", x.go(0, 2), 3);
        Check.answered(x, "go(0, 0)", x.go(0, 0), 102);
        Check.answered(x, "go(1, 0)", x.go(1, 0), 99);
        Check.due("person(0, 2)", x.person(0, 2), 102);
        Check.due("person(1, 1)", x.person(1, 1), 0);
        Check.due("size(10)", x.size(10), 4);
    }

    private static void lesserMinutes() {
        String text = Check.houses(3) + Check.wrongs("b..") + PEOPLE;
        Check.due("go(0, 1), the street is less", Check.town(text + ";street a b minutes 1").go(0, 1), 1);
        Check.due("go(0, 1), both alike", Check.town(text + ";street a b minutes 2").go(0, 1), 2);
        Check.due("go(0, 1), the DOOR is less", Check.town(text + ";street a b minutes 3").go(0, 1), 2);
        Check.due("go(0, 1), no street", Check.town(text).go(0, 1), 2);
        Check.due("go(1, 0), no DOOR", Check.town(text + ";street a c minutes 3").go(1, 0), 3);
        WrongRoom around = Check.town(Check.houses(3) + PEOPLE
                + ";street a b minutes 50;street b c minutes 4;street a c minutes 5");
        Check.due("go(0, 1), the street itself, not around", around.go(0, 1), 50);
    }

    private static WrongRoom doorAtOne() {
        return Check.town(Check.houses(3) + Check.wrongs("b..") + ";street a b minutes 9;open a from 1 to 1" + PEOPLE);
    }

    private static void doorOfThatMinute() {
        int[][] due = {{59, 68}, {60, 62}, {119, 121}, {120, 129}};
        for (int[] d : due) {
            WrongRoom x = doorAtOne();
            x.waits(0, d[0]);
            Check.answered(x, "go(0, 1) at " + d[0], x.go(0, 1), d[1]);
        }
        WrongRoom first = doorAtOne();
        Check.answered(first, "go(0, 1) at 0", first.go(0, 1), 9);
        WrongRoom x = doorAtOne();
        x.waits(0, 60);
        x.shut(0, true);
        Check.answered(x, "go(0, 1) at 60, SHUT", x.go(0, 1), 69);
    }

    private static void doorOfTheNextDay() {
        int[][] due = {{500, 1508}, {501, 1502}, {560, 1561}, {561, 1569}};
        for (int[] d : due) {
            WrongRoom x = doorAtOne();
            x.waits(0, 999);
            x.waits(0, d[0]);
            Check.answered(x, "go(0, 1) at " + (999 + d[0]), x.go(0, 1), d[1]);
        }
        WrongRoom midnight = Check.town(Check.houses(3) + Check.wrongs("b..") + ";open a from 0 to 0" + PEOPLE);
        midnight.waits(0, 999);
        midnight.waits(0, 440);
        Check.refused(midnight, "go(0, 1) at 1439", midnight.go(0, 1), 5);
        midnight.waits(0, 1);
        Check.answered(midnight, "go(0, 1) at 1440", midnight.go(0, 1), 1442);
    }

    private static void goOfNoOne() {
        WrongRoom x = town();
        for (int p : new int[] {-1, 2, 3, 4, MIN, MAX}) {
            Check.refused(x, "go(" + p + ", 0)", x.go(p, 0), 1);
        }
        for (int h : new int[] {-1, 4, 7, MIN, MAX}) {
            Check.refused(x, "go(0, " + h + ")", x.go(0, h), 1);
        }
        Check.due("size(10)", x.size(10), 0);
    }

    private static void heIsThere() {
        WrongRoom x = town();
        String before = Check.state(x);
        Check.refused(x, "go(0, 0)", x.go(0, 0), 5);
        Check.refused(x, "go(1, 2)", x.go(1, 2), 5);
        Check.unchanged(x, "refused ones", before);
    }

    private static void cantGoThere() {
        WrongRoom x = Check.town(Check.houses(4) + Check.wrongs("bc..") + ";open a from 1 to 1" + PEOPLE);
        String before = Check.state(x);
        Check.refused(x, "go(0, 1), one does not wait", x.go(0, 1), 5);
        Check.refused(x, "go(0, 2), no way at once", x.go(0, 2), 5);
        Check.refused(x, "go(0, 3), no way at all", x.go(0, 3), 5);
        Check.refused(x, "go(1, 1), no way back", x.go(1, 1), 5);
        Check.unchanged(x, "refused ones", before);
        x.waits(0, 60);
        x.shut(0, true);
        Check.refused(x, "go(0, 1), SHUT", x.go(0, 1), 5);
        x.shut(0, false);
        Check.answered(x, "go(0, 1), opened", x.go(0, 1), 62);
    }

    private static void leastAndMostWait() {
        WrongRoom x = town();
        Check.answered(x, "waits(0, 1)", x.waits(0, 1), 1);
        Check.answered(x, "waits(0, 999)", x.waits(0, 999), 1000);
        Check.answered(x, "waits(0, 999) past a day", x.waits(0, 999), 1999);
        Check.answered(x, "waits(1, 5)", x.waits(1, 5), 5);
        Check.due("person(0, 1)", x.person(0, 1), 0);
        Check.due("size(10)", x.size(10), 4);
    }

    private static void waitsOfNoOne() {
        WrongRoom x = town();
        for (int p : new int[] {-1, 2, 3, 4, MIN, MAX}) {
            Check.refused(x, "waits(" + p + ", 5)", x.waits(p, 5), 1);
            Check.refused(x, "waits(" + p + ", 0)", x.waits(p, 0), 1);
        }
        Check.due("size(10)", x.size(10), 0);
    }

    private static void waitsNoTime() {
        WrongRoom x = town();
        for (int minutes : new int[] {0, -1, 1000, MIN, MAX}) {
            Check.refused(x, "waits(0, " + minutes + ")", x.waits(0, minutes), 2);
        }
        Check.due("person(0, 2)", x.person(0, 2), 0);
        Check.due("size(10)", x.size(10), 0);
    }

    private static void undoEach() {
        WrongRoom x = town();
        String[] before = new String[6];
        before[0] = Check.state(x);
        x.exchange(0, 2);
        before[1] = Check.state(x);
        x.shut(1, true);
        before[2] = Check.state(x);
        x.go(0, 1);
        before[3] = Check.state(x);
        x.waits(1, 7);
        before[4] = Check.state(x);
        x.shut(1, false);
        for (int act = 4; act >= 0; act--) {
            Check.answered(x, "undo() of act " + act, x.undo() ? 1 : 0, 1);
            Check.unchanged(x, "act " + act + " and its undo()", before[act]);
        }
    }

    private static void undoneAndDoneAgain() {
        WrongRoom x = town();
        x.waits(0, 5);
        x.undo();
        x.waits(0, 6);
        x.waits(0, 7);
        x.undo();
        Check.due("person(0, 2)", x.person(0, 2), 6);
        x.undo();
        Check.due("person(0, 2)", x.person(0, 2), 0);
        Check.denied(x, "undo(), an undo() can't be undone", x.undo(), 6);
    }

    private static void nothingToUndo() {
        WrongRoom x = town();
        Check.denied(x, "undo() at first", x.undo(), 6);
        x.waits(0, 5);
        x.undo();
        Check.denied(x, "undo() of no more", x.undo(), 6);
        WrongRoom none = new WrongRoom();
        Check.denied(none, "undo() without a TOWN", none.undo(), 6);
    }

    private static void sixteenAreKept() {
        WrongRoom x = town();
        for (int i = 1; i <= 40; i++) {
            x.waits(0, 1);
            Check.due("size(10)", x.size(10), Math.min(i, 16));
        }
        for (int i = 1; i <= 16; i++) {
            Check.answered(x, "undo() " + i, x.undo() ? 1 : 0, 1);
            Check.due("person(0, 2)", x.person(0, 2), 40 - i);
            Check.due("size(10)", x.size(10), 16 - i);
        }
        Check.denied(x, "undo() of a seventeenth", x.undo(), 6);
        Check.due("person(0, 2)", x.person(0, 2), 24);
        x.waits(0, 100);
        x.undo();
        Check.due("person(0, 2)", x.person(0, 2), 24);
    }

    private static void sixteenThenFifteen() {
        for (int acts = 15; acts <= 17; acts++) {
            WrongRoom x = town();
            for (int i = 0; i < acts; i++) {
                x.waits(0, 1);
            }
            for (int i = 0; i < Math.min(acts, 16); i++) {
                Check.due("undo() of " + acts, x.undo(), true);
            }
            Check.denied(x, "undo() of no more of " + acts, x.undo(), 6);
            Check.due("person(0, 2) of " + acts, x.person(0, 2), Math.max(acts - 16, 0));
        }
    }

    private static void refusedIsNoAct() {
        WrongRoom x = town();
        x.waits(0, 5);
        x.exchange(0, 0);
        x.exchange(0, 1);
        x.shut(1, false);
        x.go(0, 0);
        x.waits(0, 0);
        x.mark();
        x.back(2);
        Check.due("size(10)", x.size(10), 1);
        Check.due("undo()", x.undo(), true);
        Check.due("person(0, 2)", x.person(0, 2), 0);
    }

    private static void numbersOfMarks() {
        WrongRoom x = town();
        for (int i = 0; i < 3; i++) {
            Check.answered(x, "mark()", x.mark(), i);
            Check.due("size(11)", x.size(11), i + 1);
        }
    }

    private static void markIsNoAct() {
        WrongRoom x = town();
        x.waits(0, 5);
        x.mark();
        Check.due("size(10)", x.size(10), 1);
        x.undo();
        Check.due("person(0, 2)", x.person(0, 2), 0);
        Check.due("size(11), an undo() leaves MARKS", x.size(11), 1);
        Check.due("back(0)", x.back(0), true);
        Check.due("person(0, 2) by the MARK", x.person(0, 2), 5);
    }

    private static void markWithoutTown() {
        WrongRoom x = new WrongRoom();
        for (int i = 0; i < 4; i++) {
            Check.refused(x, "mark()", x.mark(), 1);
        }
        Check.due("size(11)", x.size(11), 0);
    }

    private static void noRoomForMarks() {
        WrongRoom x = town();
        for (int i = 0; i < 3; i++) {
            x.waits(0, 1);
            x.mark();
        }
        x.waits(0, 1);
        Check.refused(x, "mark() of a fourth", x.mark(), 3);
        Check.refused(x, "mark() once more", x.mark(), 3);
        Check.due("size(11)", x.size(11), 3);
        x.back(2);
        Check.due("person(0, 2), the third stays", x.person(0, 2), 3);
        Check.refused(x, "mark() behind back", x.mark(), 3);
    }

    private static void allIsAsByMark() {
        WrongRoom x = town();
        String[] by = new String[3];
        x.mark();
        by[0] = told(x);
        x.exchange(0, 2);
        x.shut(3, true);
        x.go(0, 1);
        x.mark();
        by[1] = told(x);
        x.undo();
        x.waits(1, 999);
        x.mark();
        by[2] = told(x);
        x.shut(3, false);
        for (int mark : new int[] {1, 0, 2, 2, 1, 0}) {
            Check.answered(x, "back(" + mark + ")", x.back(mark) ? 1 : 0, 1);
            Check.due("all is as by the MARK " + mark, told(x).equals(by[mark]), true);
            x.exchange(1, 3);
            x.waits(0, 50);
        }
    }

    /** Houses and people as they are NOW. */
    private static String told(WrongRoom x) {
        StringBuilder text = new StringBuilder();
        for (int h = 0; h < 4; h++) {
            text.append(x.house(h, 3)).append(' ').append(x.house(h, 5)).append(' ');
        }
        for (int p = 0; p < 2; p++) {
            text.append(x.person(p, 1)).append(' ').append(x.person(p, 2)).append(' ');
        }
        return text.toString();
    }

    private static void allMarksStay() {
        WrongRoom x = town();
        x.mark();
        x.waits(0, 1);
        x.mark();
        x.waits(0, 1);
        x.mark();
        Check.answered(x, "back(0)", x.back(0) ? 1 : 0, 1);
        Check.due("size(11)", x.size(11), 3);
        Check.answered(x, "back(2)", x.back(2) ? 1 : 0, 1);
        Check.due("person(0, 2)", x.person(0, 2), 2);
        Check.answered(x, "back(1)", x.back(1) ? 1 : 0, 1);
        Check.due("person(0, 2)", x.person(0, 2), 1);
    }

    private static void nothingUndoneBehindBack() {
        WrongRoom x = town();
        x.waits(0, 1);
        x.mark();
        x.waits(0, 50);
        x.back(0);
        Check.due("size(10)", x.size(10), 0);
        Check.denied(x, "undo()", x.undo(), 6);
        Check.due("person(0, 2)", x.person(0, 2), 1);
        x.waits(0, 9);
        Check.due("size(10) then", x.size(10), 1);
        Check.due("undo() of an act behind that", x.undo(), true);
        Check.due("person(0, 2) then", x.person(0, 2), 1);
        Check.denied(x, "undo() of no more", x.undo(), 6);
    }

    private static void noSuchMark() {
        WrongRoom x = town();
        Check.denied(x, "back(0) without MARKS", x.back(0), 1);
        x.waits(0, 1);
        x.mark();
        x.waits(0, 1);
        String before = Check.state(x);
        for (int mark : new int[] {-1, 1, 2, 3, MIN, MAX}) {
            Check.denied(x, "back(" + mark + ")", x.back(mark), 1);
        }
        Check.unchanged(x, "refused ones", before);
        x.mark();
        x.mark();
        Check.denied(x, "back(3) of three", x.back(3), 1);
        WrongRoom none = new WrongRoom();
        Check.denied(none, "back(0) without a TOWN", none.back(0), 1);
    }
}
