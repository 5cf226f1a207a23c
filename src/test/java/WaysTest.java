/** Promises 14 to 18: way, wayAt, saves, farthest, homeIn. */
final class WaysTest {
    private WaysTest() {
    }

    public static void main(String[] args) {
        waysByStreets();
        waysByDoors();
        likeWays();
        nextDay();
        refusals();
        farthest();
        homeIn();
        Check.end();
    }

    private static void row(WrongRoom x, int h, int g, int minute, int... due) {
        for (int i = 0; i < due.length; i++) {
            Check.due("wayAt(" + h + ", " + g + ", " + minute + ", " + i + ")", x.wayAt(h, g, minute, i), due[i]);
        }
        Check.refused(x, "wayAt behind the last", x.wayAt(h, g, minute, due.length), 1);
    }

    private static void waysByStreets() {
        WrongRoom x = Check.town(Check.houses(5)
                + ";street a b minutes 10;street b c minutes 10;street a c minutes 25;street c d minutes 1");
        Check.due("way(0, 3, 0)", x.way(0, 3, 0), 21);
        row(x, 0, 3, 0, 0, 1, 2, 3);
        Check.due("way(3, 0, 0)", x.way(3, 0, 0), 21);
        row(x, 3, 0, 0, 3, 2, 1, 0);
        Check.due("way(0, 0, 7)", x.way(0, 0, 7), 0);
        row(x, 0, 0, 7, 0);
        Check.due("way(0, 4, 0)", x.way(0, 4, 0), -2);
        Check.due("trouble()", x.trouble(), 0);
        row(x, 0, 4, 0);
        Check.due("saves(0, 3, 0)", x.saves(0, 3, 0), 0);
        Check.due("saves(0, 4, 0)", x.saves(0, 4, 0), -2);
        Check.due("saves(0, 0, 0)", x.saves(0, 0, 0), 0);
    }

    private static void waysByDoors() {
        WrongRoom x = Check.town(Check.houses(3) + Check.wrongs("bc.") + ";street a b minutes 30;open b from 8 to 8");
        Check.due("a door goes one way", x.way(1, 0, 0), 30);
        Check.due("way(0, 2, 0)", x.way(0, 2, 0), 482);
        Check.due("way(0, 2, 478)", x.way(0, 2, 478), 4);
        Check.due("way(0, 2, 537)", x.way(0, 2, 537), 4);
        Check.due("way(0, 2, 538)", x.way(0, 2, 538), 1440 - 538 + 482);
        Check.due("no way back", x.way(2, 0, 0), -2);
        Check.due("saves(0, 2, 0)", x.saves(0, 2, 0), -2);
        Check.due("saves(0, 1, 0)", x.saves(0, 1, 0), 28);
        x.shut(0, true);
        Check.due("shut", x.way(0, 2, 450), 32);
        Check.due("saves(0, 1, 0), shut", x.saves(0, 1, 0), 0);
        x.shut(1, true);
        Check.due("both shut", x.way(0, 2, 450), -2);
        WrongRoom y = Check.town(Check.houses(2) + Check.wrongs("b.") + ";street a b minutes 1");
        Check.due("a street sooner than a door", y.way(0, 1, 0), 1);
        Check.due("saves(0, 1, 0)", y.saves(0, 1, 0), 0);
    }

    private static void likeWays() {
        WrongRoom x = Check.town(Check.houses(4) + ";street a c minutes 5;street c d minutes 5"
                + ";street a b minutes 4;street b d minutes 6");
        row(x, 0, 3, 0, 0, 1, 3);
        row(x, 3, 0, 0, 3, 1, 0);
        WrongRoom y = Check.town(Check.houses(3) + ";street a c minutes 5;street a b minutes 2;street b c minutes 3");
        row(y, 0, 2, 0, 0, 1, 2);
        WrongRoom z = Check.town(Check.houses(4) + Check.wrongs("..d.") + ";street a c minutes 5;street a b minutes 7"
                + ";street b c minutes 7;open c from 1 to 1");
        Check.due("one waits anyway", z.way(0, 3, 0), 62);
        row(z, 0, 3, 0, 0, 1, 2, 3);
    }

    private static void nextDay() {
        WrongRoom x = Check.town(Check.houses(3) + Check.wrongs("bc.") + ";open a from 0 to 0;open b from 23 to 23");
        Check.due("way(0, 1, 1439)", x.way(0, 1, 1439), 3);
        Check.due("way(0, 2, 1439)", x.way(0, 2, 1439), 1 + 1380 + 2);
        Check.due("way(0, 1, 59)", x.way(0, 1, 59), 2);
        Check.due("way(0, 1, 60)", x.way(0, 1, 60), 1382);
        Check.due("way(1, 2, 1439)", x.way(1, 2, 1439), 2);
    }

    private static void refusals() {
        WrongRoom x = Check.town(Check.houses(2) + ";street a b minutes 1");
        Check.refused(x, "way(2, 0, 0)", x.way(2, 0, 0), 1);
        Check.refused(x, "way(0, -1, 0)", x.way(0, -1, 0), 1);
        Check.refused(x, "way(0, 2, 1440)", x.way(0, 2, 1440), 1);
        Check.refused(x, "way(0, 1, 1440)", x.way(0, 1, 1440), 2);
        Check.refused(x, "way(0, 1, -1)", x.way(0, 1, -1), 2);
        Check.refused(x, "wayAt(2, 0, 0, 0)", x.wayAt(2, 0, 0, 0), 1);
        Check.refused(x, "wayAt(0, 1, 1440, 0)", x.wayAt(0, 1, 1440, 0), 2);
        Check.refused(x, "wayAt(0, 1, 0, -1)", x.wayAt(0, 1, 0, -1), 1);
        Check.refused(x, "wayAt(0, 1, 0, MAX)", x.wayAt(0, 1, 0, Integer.MAX_VALUE), 1);
        Check.refused(x, "saves(0, 2, 0)", x.saves(0, 2, 0), 1);
        Check.refused(x, "saves(0, 1, 1440)", x.saves(0, 1, 1440), 2);
        Check.refused(x, "farthest(2, 0)", x.farthest(2, 0), 1);
        Check.refused(x, "farthest(0, -1)", x.farthest(0, -1), 2);
        Check.refused(x, "homeIn(0)", x.homeIn(0), 1);
    }

    private static void farthest() {
        WrongRoom x = Check.town(Check.houses(5) + Check.wrongs("...e.")
                + ";street a b minutes 5;street a c minutes 5;street a d minutes 4;open d from 23 to 23");
        Check.due("farthest(0, 0)", x.farthest(0, 0), 4);
        Check.due("farthest(0, 1400)", x.farthest(0, 1400), 4);
        x.shut(3, true);
        Check.due("farthest(0, 0), the first such", x.farthest(0, 0), 1);
        Check.due("farthest(1, 0)", x.farthest(1, 0), 2);
        Check.due("farthest(4, 0), alone", x.farthest(4, 0), 4);
    }

    private static void homeIn() {
        WrongRoom x = Check.town(Check.houses(3) + Check.wrongs("b..") + ";open a from 1 to 1"
                + ";person p home b at a;person q home c at a;person r home a at a");
        Check.due("homeIn(0)", x.homeIn(0), 62);
        Check.due("homeIn(1)", x.homeIn(1), -2);
        Check.due("trouble()", x.trouble(), 0);
        Check.due("homeIn(2)", x.homeIn(2), 0);
        x.waits(0, 100);
        Check.due("homeIn(0) at 100", x.homeIn(0), 2);
        x.waits(0, 20);
        Check.due("homeIn(0) at 120", x.homeIn(0), 1382);
        x.waits(0, 999);
        x.waits(0, 390);
        Check.due("homeIn(0) at 1509, the next day", x.homeIn(0), 2);
        Check.refused(x, "homeIn(3)", x.homeIn(3), 1);
        Check.refused(x, "homeIn(-1)", x.homeIn(-1), 1);
    }
}
