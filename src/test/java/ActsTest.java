/** Promises 37 to 43: exchange, shut, go, waits, undo, mark, back. */
final class ActsTest {
    private static final String PEOPLE = ";person p home a at a;person q home b at c";

    private ActsTest() {
    }

    public static void main(String[] args) {
        exchange();
        shut();
        go();
        doorsOfPeople();
        waits();
        undo();
        sixteenAreKept();
        marks();
        Check.end();
    }

    private static void exchange() {
        WrongRoom x = Check.town(Check.houses(5) + Check.wrongs("bcda."));
        Check.due("exchange(2, 0)", x.exchange(2, 0), true);
        Check.due("trouble()", x.trouble(), 0);
        int[] due = {3, 2, 1, 0, -2};
        for (int h = 0; h < 5; h++) {
            Check.due("house(" + h + ", 3)", x.house(h, 3), due[h]);
        }
        Check.due("house(1, 4)", x.house(1, 4), 2);
        Check.denied(x, "exchange(0, 3), its own", x.exchange(0, 3), 5);
        Check.denied(x, "exchange(0, 4), not known", x.exchange(0, 4), 5);
        Check.denied(x, "exchange(4, 0), not known", x.exchange(4, 0), 5);
        Check.denied(x, "exchange(0, 0)", x.exchange(0, 0), 1);
        Check.denied(x, "exchange(0, 5)", x.exchange(0, 5), 1);
        Check.denied(x, "exchange(-1, 0)", x.exchange(-1, 0), 1);
        Check.due("acts", x.size(10), 1);
        WrongRoom y = Check.town(Check.houses(3) + Check.wrongs("bc."));
        Check.denied(y, "exchange(0, 1), its own", y.exchange(0, 1), 5);
        Check.denied(y, "exchange(1, 0), its own", y.exchange(1, 0), 5);
    }

    private static void shut() {
        WrongRoom x = Check.town(Check.houses(3) + Check.wrongs("bc."));
        Check.denied(x, "shut(0, false)", x.shut(0, false), 5);
        Check.due("shut(0, true)", x.shut(0, true), true);
        Check.due("trouble()", x.trouble(), 0);
        Check.denied(x, "shut(0, true) again", x.shut(0, true), 5);
        Check.due("shut(2, true), not known", x.shut(2, true), true);
        Check.due("size(9)", x.size(9), 2);
        Check.due("shut(0, false)", x.shut(0, false), true);
        Check.due("house(0, 5)", x.house(0, 5), 0);
        Check.due("house(2, 5)", x.house(2, 5), 1);
        Check.denied(x, "shut(3, true)", x.shut(3, true), 1);
        Check.denied(x, "shut(-1, false)", x.shut(-1, false), 1);
        Check.due("acts", x.size(10), 3);
    }

    private static void go() {
        WrongRoom x = Check.town(Check.houses(4) + Check.wrongs("bc..") + ";street a c minutes 9;street a b minutes 1"
                + PEOPLE);
        Check.denied(x, "go(0, 0), he is there", x.go(0, 0) != -1, 5);
        Check.refused(x, "go(0, 3), no street", x.go(0, 3), 5);
        Check.due("go(0, 1), the street is less", x.go(0, 1), 1);
        Check.due("trouble()", x.trouble(), 0);
        Check.due("go(0, 2), a door", x.go(0, 2), 3);
        Check.refused(x, "go(0, 1), no way back", x.go(0, 1), 5);
        Check.due("go(0, 0), a street", x.go(0, 0), 12);
        Check.due("go(1, 0)", x.go(1, 0), 9);
        Check.due("person(0, 2)", x.person(0, 2), 12);
        Check.refused(x, "go(2, 0)", x.go(2, 0), 1);
        Check.refused(x, "go(-1, 0)", x.go(-1, 0), 1);
        Check.refused(x, "go(0, 4)", x.go(0, 4), 1);
        Check.refused(x, "go(0, -1)", x.go(0, -1), 1);
        Check.due("acts", x.size(10), 4);
    }

    private static void doorsOfPeople() {
        WrongRoom x = Check.town(Check.houses(3) + Check.wrongs("b..") + ";street a b minutes 9;open a from 1 to 1"
                + PEOPLE);
        Check.due("go(0, 1), no hour of the door", x.go(0, 1), 9);
        x.undo();
        x.waits(0, 60);
        Check.due("go(0, 1) by the door", x.go(0, 1), 62);
        x.undo();
        x.shut(0, true);
        Check.due("go(0, 1), the door is shut", x.go(0, 1), 69);
        x.undo();
        x.undo();
        x.waits(0, 999);
        x.waits(0, 441);
        Check.due("go(0, 1), the next day", x.go(0, 1), 1502);
        WrongRoom y = Check.town(Check.houses(3) + Check.wrongs("b..") + ";open a from 1 to 1" + PEOPLE);
        Check.refused(y, "go(0, 1), one does not wait", y.go(0, 1), 5);
    }

    private static void waits() {
        WrongRoom x = Check.town(Check.houses(3) + PEOPLE);
        Check.due("waits(0, 1)", x.waits(0, 1), 1);
        Check.due("waits(0, 999)", x.waits(0, 999), 1000);
        Check.due("waits(1, 5)", x.waits(1, 5), 5);
        Check.due("person(0, 1)", x.person(0, 1), 0);
        Check.refused(x, "waits(0, 0)", x.waits(0, 0), 2);
        Check.refused(x, "waits(0, 1000)", x.waits(0, 1000), 2);
        Check.refused(x, "waits(0, -1)", x.waits(0, -1), 2);
        Check.refused(x, "waits(2, 0)", x.waits(2, 0), 1);
        Check.refused(x, "waits(-1, 5)", x.waits(-1, 5), 1);
        Check.due("acts", x.size(10), 3);
    }

    private static void undo() {
        WrongRoom x = Check.town(Check.houses(4) + Check.wrongs("bcda") + ";street a b minutes 1" + PEOPLE);
        Check.denied(x, "undo() at first", x.undo(), 6);
        x.exchange(0, 2);
        x.shut(1, true);
        x.go(0, 1);
        x.waits(1, 7);
        Check.due("acts", x.size(10), 4);
        Check.due("undo() of a wait", x.undo(), true);
        Check.due("trouble()", x.trouble(), 0);
        Check.due("person(1, 2)", x.person(1, 2), 0);
        Check.due("person(0, 2)", x.person(0, 2), 1);
        x.undo();
        Check.due("person(0, 1)", x.person(0, 1), 0);
        Check.due("person(0, 2)", x.person(0, 2), 0);
        Check.due("size(9)", x.size(9), 1);
        x.undo();
        Check.due("size(9)", x.size(9), 0);
        Check.due("mutual()", x.mutual(), 15);
        x.undo();
        Check.due("mutual()", x.mutual(), 0);
        Check.denied(x, "undo() of no more", x.undo(), 6);
        x.exchange(0, 0);
        Check.due("what is refused is no act", x.size(10), 0);
    }

    private static void sixteenAreKept() {
        WrongRoom x = Check.town(Check.houses(3) + PEOPLE);
        for (int i = 1; i <= 40; i++) {
            x.waits(0, 1);
            Check.due("size(10)", x.size(10), Math.min(i, 16));
        }
        for (int i = 1; i <= 16; i++) {
            Check.due("undo()", x.undo(), true);
            Check.due("person(0, 2)", x.person(0, 2), 40 - i);
        }
        Check.denied(x, "undo() of the seventeenth", x.undo(), 6);
        x.waits(0, 100);
        x.undo();
        Check.due("person(0, 2)", x.person(0, 2), 24);
    }

    private static void marks() {
        WrongRoom x = Check.town(Check.houses(4) + Check.wrongs("bcda") + ";street a b minutes 1" + PEOPLE);
        Check.denied(x, "back(0) without marks", x.back(0), 1);
        Check.due("mark()", x.mark(), 0);
        Check.due("trouble()", x.trouble(), 0);
        x.exchange(0, 2);
        x.shut(3, true);
        x.go(0, 1);
        Check.due("mark()", x.mark(), 1);
        Check.due("a mark is no act", x.size(10), 3);
        x.undo();
        Check.due("mark() of the third", x.mark(), 2);
        Check.refused(x, "mark() of a fourth", x.mark(), 3);
        Check.due("size(11)", x.size(11), 3);
        x.waits(0, 50);
        Check.due("back(1)", x.back(1), true);
        Check.due("trouble()", x.trouble(), 0);
        Check.due("person(0, 1)", x.person(0, 1), 1);
        Check.due("person(0, 2)", x.person(0, 2), 1);
        Check.due("mutual()", x.mutual(), 15);
        Check.due("size(9)", x.size(9), 1);
        Check.denied(x, "undo() behind back", x.undo(), 6);
        Check.due("marks stay", x.size(11), 3);
        x.waits(0, 50);
        Check.due("size(10)", x.size(10), 1);
        Check.due("back(0)", x.back(0), true);
        Check.due("mutual()", x.mutual(), 0);
        Check.due("size(9)", x.size(9), 0);
        Check.due("person(0, 1)", x.person(0, 1), 0);
        Check.due("back(2)", x.back(2), true);
        Check.due("person(0, 2)", x.person(0, 2), 0);
        Check.due("mutual()", x.mutual(), 15);
        Check.denied(x, "back(3)", x.back(3), 1);
        Check.denied(x, "back(-1)", x.back(-1), 1);
        Check.refused(x, "mark() of a fourth", x.mark(), 3);
    }
}
