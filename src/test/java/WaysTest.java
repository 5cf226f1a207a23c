/** Promises 14 to 18: way, wayAt, saves, farthest, homeIn. */
final class WaysTest {
    private static final int MIN = Integer.MIN_VALUE;
    private static final int MAX = Integer.MAX_VALUE;
    private static final int[] NO_HOUSES = {-1, 2, 7, MIN, MAX};
    private static final int[] NO_MINUTES = {-1, 1440, MIN, MAX};

    private WaysTest() {
    }

    public static void main(String[] args) {
        ways();
        hours();
        rows();
        saves();
        farthest();
        homeIn();
        Check.end();
    }

    private static void ways() {
        Check.promise(14, "SOONEST", WaysTest::soonestByStreets);
        Check.promise(14, "SOONEST", WaysTest::soonestByDoors);
        Check.promise(14, "A WAY from a house to another one", WaysTest::toItself);
        Check.promise(14, "by streets, both ways, or DOORS", WaysTest::bothWays);
        Check.promise(14, "By its DOOR one goes from the house into that other one (not back).", WaysTest::notBack);
        Check.promise(14, "-2 there is no WAY", WaysTest::noWay);
        Check.promise(14, "not if it is SHUT", WaysTest::shutDoors);
        Check.promise(14, "NONE: 1; 2.", WaysTest::wayRefused);
    }

    private static void hours() {
        Check.promise(14, "one can wait at a house till a DOOR can be gone into", WaysTest::waiting);
        Check.promise(14, "at every minute of the hours told, the first and the last one too", WaysTest::lastMinute);
        Check.promise(14, "from a minute on (0 .. 1,439, of a day; the next day goes on so)", WaysTest::nextDay);
        Check.promise(14, "the next day goes on so", WaysTest::manyDays);
    }

    private static void rows() {
        Check.promise(15, "Its i-th house (0: the first one).", WaysTest::rowOfHouses);
        Check.promise(15, "no house twice", WaysTest::noHouseTwice);
        Check.promise(15, "SOONEST: the fewest minutes, by houses one by one, of like ones the first by houses' numbers.",
                WaysTest::likeWays);
        Check.promise(15, "of like ones the first by houses' numbers", WaysTest::likeByWaiting);
        Check.promise(15, "NONE: 1 (i, too); 2.", WaysTest::noSuchHouseOfRow);
        Check.promise(15, "NONE: 1 (i, too); 2.", WaysTest::rowRefused);
    }

    private static void saves() {
        Check.promise(16, "By how many minutes DOORS make it sooner than streets alone", WaysTest::saved);
        Check.promise(16, "-2 there is no WAY by streets", WaysTest::noStreets);
        Check.promise(16, "NONE: 1; 2.", WaysTest::savesRefused);
    }

    private static void farthest() {
        Check.promise(17, "The house to which it takes longest (to which there is a WAY)", WaysTest::longest);
        Check.promise(17, "(to which there is a WAY)", WaysTest::alone);
        Check.promise(17, "the first such", WaysTest::firstOfFar);
        Check.promise(17, "NONE: 1; 2.", WaysTest::farthestRefused);
    }

    private static void homeIn() {
        Check.promise(18, "How soon a person is home from NOW on", WaysTest::homeFromNowOn);
        Check.promise(18, "from NOW on", WaysTest::homeOnTheNextDay);
        Check.promise(18, "; -2.", WaysTest::neverHome);
        Check.promise(18, "NONE: 1.", WaysTest::nobody);
    }

    private static void row(WrongRoom x, int h, int g, int minute, int... due) {
        for (int i = 0; i < due.length; i++) {
            Check.answered(x, "wayAt(" + h + ", " + g + ", " + minute + ", " + i + ")", x.wayAt(h, g, minute, i), due[i]);
        }
        Check.refused(x, "wayAt behind the last", x.wayAt(h, g, minute, due.length), 1);
    }

    private static WrongRoom streets() {
        return Check.town(Check.houses(5)
                + ";street a b minutes 10;street b c minutes 10;street a c minutes 25;street c d minutes 1");
    }

    private static void soonestByStreets() {
        WrongRoom x = streets();
        Check.answered(x, "way(0, 3, 0)", x.way(0, 3, 0), 21);
        Check.answered(x, "way(0, 2, 0)", x.way(0, 2, 0), 20);
        WrongRoom line = Check.town(Check.houses(7) + ";street a b minutes 99;street b c minutes 99;street c d minutes 99"
                + ";street d e minutes 99;street e f minutes 99;street f g minutes 99");
        Check.answered(line, "way(0, 6, 1439) through all houses", line.way(0, 6, 1439), 594);
    }

    private static void soonestByDoors() {
        WrongRoom x = Check.town(Check.houses(7) + Check.wrongs("bcdefg.") + ";street a g minutes 13");
        Check.answered(x, "way(0, 6, 0) by six DOORS", x.way(0, 6, 0), 12);
        WrongRoom y = Check.town(Check.houses(7) + Check.wrongs("bcdefg.") + ";street a g minutes 11");
        Check.answered(y, "way(0, 6, 0) by a street", y.way(0, 6, 0), 11);
        WrongRoom z = Check.town(Check.houses(2) + Check.wrongs("b.") + ";street a b minutes 1");
        Check.answered(z, "way(0, 1, 0), a street sooner than a DOOR", z.way(0, 1, 0), 1);
        WrongRoom now = Check.town(Check.houses(4) + Check.wrongs("bcda"));
        now.exchange(0, 2);
        Check.answered(now, "way(0, 3, 0) NOW", now.way(0, 3, 0), 2);
        Check.answered(now, "way(0, 1, 0) NOW", now.way(0, 1, 0), -2);
    }

    private static void toItself() {
        WrongRoom x = streets();
        for (int h = 0; h < 5; h++) {
            Check.answered(x, "way(" + h + ", " + h + ", 7)", x.way(h, h, 7), 0);
            row(x, h, h, 7, h);
            Check.answered(x, "saves(" + h + ", " + h + ", 7)", x.saves(h, h, 7), 0);
        }
    }

    private static void bothWays() {
        WrongRoom x = streets();
        for (int h = 0; h < 4; h++) {
            for (int g = 0; g < 4; g++) {
                Check.due("way(" + h + ", " + g + ", 0) both ways", x.way(h, g, 0), x.way(g, h, 0));
            }
        }
        Check.due("way(3, 0, 0)", x.way(3, 0, 0), 21);
    }

    private static void notBack() {
        WrongRoom x = Check.town(Check.houses(3) + Check.wrongs("b..") + ";street a b minutes 30");
        Check.answered(x, "way(0, 1, 0)", x.way(0, 1, 0), 2);
        Check.answered(x, "way(1, 0, 0)", x.way(1, 0, 0), 30);
        WrongRoom y = Check.town(Check.houses(2) + Check.wrongs("b."));
        Check.answered(y, "way(1, 0, 0)", y.way(1, 0, 0), -2);
    }

    private static void noWay() {
        WrongRoom x = streets();
        Check.answered(x, "way(0, 4, 0)", x.way(0, 4, 0), -2);
        Check.answered(x, "way(4, 0, 0)", x.way(4, 0, 0), -2);
        WrongRoom y = Check.town(Check.houses(2));
        Check.answered(y, "way(0, 1, 0) of nothing told", y.way(0, 1, 0), -2);
    }

    private static void shutDoors() {
        WrongRoom x = Check.town(Check.houses(3) + Check.wrongs("bc.") + ";street a b minutes 30");
        Check.due("way(0, 2, 0)", x.way(0, 2, 0), 4);
        x.shut(0, true);
        Check.due("way(0, 2, 0), one SHUT", x.way(0, 2, 0), 32);
        x.shut(1, true);
        Check.due("way(0, 2, 0), both SHUT", x.way(0, 2, 0), -2);
        x.shut(1, false);
        Check.due("way(0, 2, 0), one opened", x.way(0, 2, 0), 32);
    }

    private static void wayRefused() {
        WrongRoom x = Check.town(Check.houses(2) + ";street a b minutes 1");
        for (int h : NO_HOUSES) {
            Check.refused(x, "way(" + h + ", 0, 0)", x.way(h, 0, 0), 1);
            Check.refused(x, "way(0, " + h + ", 0)", x.way(0, h, 0), 1);
            Check.refused(x, "way(0, " + h + ", 1440)", x.way(0, h, 1440), 1);
        }
        for (int minute : NO_MINUTES) {
            Check.refused(x, "way(0, 1, " + minute + ")", x.way(0, 1, minute), 2);
            Check.refused(x, "way(0, 0, " + minute + ")", x.way(0, 0, minute), 2);
        }
        Check.answered(x, "way(0, 1, 0)", x.way(0, 1, 0), 1);
        Check.answered(x, "way(0, 1, 1439)", x.way(0, 1, 1439), 1);
    }

    private static WrongRoom doorAtEight() {
        return Check.town(Check.houses(3) + Check.wrongs("bc.") + ";street a b minutes 30;open b from 8 to 8");
    }

    private static void waiting() {
        WrongRoom x = doorAtEight();
        Check.answered(x, "way(0, 2, 0)", x.way(0, 2, 0), 482);
        Check.answered(x, "way(0, 2, 477), a minute early", x.way(0, 2, 477), 5);
        Check.answered(x, "way(0, 2, 478), just in time", x.way(0, 2, 478), 4);
        WrongRoom y = Check.town(Check.houses(2) + Check.wrongs("b.") + ";street a b minutes 9;open a from 1 to 1");
        Check.answered(y, "way(0, 1, 53), like both ways", y.way(0, 1, 53), 9);
        Check.answered(y, "way(0, 1, 54), waiting is sooner", y.way(0, 1, 54), 8);
        Check.answered(y, "way(0, 1, 52), the street is sooner", y.way(0, 1, 52), 9);
    }

    private static void lastMinute() {
        WrongRoom x = doorAtEight();
        Check.answered(x, "way(0, 2, 537), the last minute", x.way(0, 2, 537), 4);
        Check.answered(x, "way(0, 2, 538), a minute late", x.way(0, 2, 538), 1440 - 538 + 482);
        Check.answered(x, "way(1, 2, 539)", x.way(1, 2, 539), 2);
        Check.answered(x, "way(1, 2, 540)", x.way(1, 2, 540), 1440 - 540 + 482);
    }

    private static void nextDay() {
        WrongRoom x = Check.town(Check.houses(3) + Check.wrongs("bc.") + ";open a from 0 to 0;open b from 23 to 23");
        Check.answered(x, "way(0, 1, 1439)", x.way(0, 1, 1439), 3);
        Check.answered(x, "way(0, 2, 1439)", x.way(0, 2, 1439), 1 + 1380 + 2);
        Check.answered(x, "way(0, 1, 0)", x.way(0, 1, 0), 2);
        Check.answered(x, "way(0, 1, 59)", x.way(0, 1, 59), 2);
        Check.answered(x, "way(0, 1, 60)", x.way(0, 1, 60), 1382);
        Check.answered(x, "way(1, 2, 1439)", x.way(1, 2, 1439), 2);
        Check.answered(x, "way(1, 2, 0)", x.way(1, 2, 0), 1382);
        WrongRoom y = Check.town(Check.houses(3) + Check.wrongs("bc.") + ";open b from 0 to 0");
        Check.answered(y, "way(0, 2, 1439), past midnight", y.way(0, 2, 1439), 4);
        WrongRoom z = Check.town(Check.houses(3) + Check.wrongs(".c.") + ";street a b minutes 1;open b from 23 to 23");
        Check.answered(z, "way(0, 2, 1438), ahead of midnight", z.way(0, 2, 1438), 3);
        Check.answered(z, "way(0, 2, 1439), midnight is too late", z.way(0, 2, 1439), 1 + 1380 + 2);
    }

    /** Each DOOR can be gone into an hour ahead of the one before, so one waits for it till the next day. */
    private static void manyDays() {
        StringBuilder text = new StringBuilder(Check.houses(7) + Check.wrongs("bcdefg."));
        for (int h = 0; h < 6; h++) {
            text.append(";open ").append((char) ('a' + h)).append(" from ").append(23 - h).append(" to ").append(23 - h);
        }
        WrongRoom x = Check.town(text.toString());
        for (int g = 1; g < 7; g++) {
            Check.answered(x, "way(0, " + g + ", 0)", x.way(0, g, 0), 1380 * g + 2);
        }
        row(x, 0, 6, 0, 0, 1, 2, 3, 4, 5, 6);
        Check.answered(x, "way(0, 6, 1439)", x.way(0, 6, 1439), 2 + 1380 * 5 - 59);
    }

    private static void rowOfHouses() {
        WrongRoom x = streets();
        row(x, 0, 3, 0, 0, 1, 2, 3);
        row(x, 3, 0, 0, 3, 2, 1, 0);
        row(x, 2, 3, 1439, 2, 3);
        WrongRoom all = Check.town(Check.houses(7) + Check.wrongs("cge.fb."));
        row(all, 0, 6, 0, 0, 2, 4, 5, 1, 6);
    }

    private static void noHouseTwice() {
        for (int h = 0; h < 7; h++) {
            WrongRoom x = Check.town(Check.houses(7) + Check.wrongs("bcdefga") + ";street a c minutes 1"
                    + ";street c e minutes 1;street g b minutes 1;open c from 9 to 9;open f from 3 to 3");
            for (int g = 0; g < 7; g++) {
                int bits = 0;
                int houses = 0;
                int at = x.wayAt(h, g, 300, 0);
                while (at >= 0 && houses < 8) {
                    bits |= 1 << at;
                    houses++;
                    at = x.wayAt(h, g, 300, houses);
                }
                Check.due("houses from " + h + " to " + g, Integer.bitCount(bits), houses);
                Check.due("the last house from " + h + " to " + g, x.wayAt(h, g, 300, houses - 1), g);
            }
        }
    }

    private static void likeWays() {
        WrongRoom x = Check.town(Check.houses(4) + ";street a c minutes 5;street c d minutes 5"
                + ";street a b minutes 4;street b d minutes 6");
        row(x, 0, 3, 0, 0, 1, 3);
        row(x, 3, 0, 0, 3, 1, 0);
        WrongRoom longer = Check.town(Check.houses(3)
                + ";street a c minutes 5;street a b minutes 2;street b c minutes 3");
        row(longer, 0, 2, 0, 0, 1, 2);
        WrongRoom shorter = Check.town(Check.houses(3)
                + ";street a b minutes 5;street a c minutes 2;street c b minutes 3");
        row(shorter, 0, 1, 0, 0, 1);
        WrongRoom less = Check.town(Check.houses(4) + ";street a c minutes 5;street c d minutes 4"
                + ";street a b minutes 4;street b d minutes 6");
        row(less, 0, 3, 0, 0, 2, 3);
    }

    private static void likeByWaiting() {
        WrongRoom z = Check.town(Check.houses(4) + Check.wrongs("..d.") + ";street a c minutes 5;street a b minutes 7"
                + ";street b c minutes 7;open c from 1 to 1");
        Check.answered(z, "way(0, 3, 0)", z.way(0, 3, 0), 62);
        row(z, 0, 3, 0, 0, 1, 2, 3);
        row(z, 0, 3, 46, 0, 1, 2, 3);
        row(z, 0, 3, 47, 0, 2, 3);
    }

    private static void noSuchHouseOfRow() {
        WrongRoom x = streets();
        row(x, 0, 4, 0);
        for (int i : new int[] {-1, 4, 7, MIN, MAX}) {
            Check.refused(x, "wayAt(0, 3, 0, " + i + ")", x.wayAt(0, 3, 0, i), 1);
        }
        row(x, 0, 4, 0);
        Check.refused(x, "wayAt(0, 0, 0, 1)", x.wayAt(0, 0, 0, 1), 1);
        x.wayAt(0, 3, 0, 3);
        row(x, 4, 0, 0);
        WrongRoom all = Check.town(Check.houses(7) + Check.wrongs("bcdefg."));
        Check.answered(all, "wayAt(0, 6, 0, 6)", all.wayAt(0, 6, 0, 6), 6);
        Check.refused(all, "wayAt(0, 6, 0, 7)", all.wayAt(0, 6, 0, 7), 1);
    }

    private static void rowRefused() {
        WrongRoom x = Check.town(Check.houses(2) + ";street a b minutes 1");
        for (int h : NO_HOUSES) {
            Check.refused(x, "wayAt(" + h + ", 0, 0, 0)", x.wayAt(h, 0, 0, 0), 1);
            Check.refused(x, "wayAt(0, " + h + ", 0, 0)", x.wayAt(0, h, 0, 0), 1);
            Check.refused(x, "wayAt(0, " + h + ", -1, 0)", x.wayAt(0, h, -1, 0), 1);
        }
        for (int minute : NO_MINUTES) {
            Check.refused(x, "wayAt(0, 1, " + minute + ", 0)", x.wayAt(0, 1, minute, 0), 2);
        }
    }

    private static void saved() {
        WrongRoom x = Check.town(Check.houses(3) + Check.wrongs("bc.") + ";street a b minutes 30;street b c minutes 10"
                + ";open b from 8 to 8");
        Check.answered(x, "saves(0, 1, 0)", x.saves(0, 1, 0), 28);
        Check.answered(x, "saves(0, 2, 0)", x.saves(0, 2, 0), 28);
        Check.answered(x, "saves(0, 2, 478)", x.saves(0, 2, 478), 36);
        Check.answered(x, "saves(1, 0, 478)", x.saves(1, 0, 478), 0);
        x.shut(0, true);
        Check.answered(x, "saves(0, 1, 0), SHUT", x.saves(0, 1, 0), 0);
        WrongRoom y = Check.town(Check.houses(2) + Check.wrongs("b.") + ";street a b minutes 1");
        Check.answered(y, "saves(0, 1, 0), the street is sooner", y.saves(0, 1, 0), 0);
        for (char between = 'a'; between <= 'c'; between++) {
            String others = "abc".replace(String.valueOf(between), "");
            WrongRoom z = Check.town(Check.houses(3) + ";wrong " + others.charAt(0) + " of " + others.charAt(1)
                    + ";street " + between + " " + others.charAt(0) + " minutes 5;street " + between + " "
                    + others.charAt(1) + " minutes 6;street " + others.charAt(0) + " " + others.charAt(1) + " minutes 99");
            Check.answered(z, "saves by streets through " + between,
                    z.saves(others.charAt(0) - 'a', others.charAt(1) - 'a', 0), 9);
        }
    }

    private static void noStreets() {
        WrongRoom x = Check.town(Check.houses(4) + Check.wrongs("bc..") + ";street a b minutes 30");
        Check.answered(x, "saves(0, 2, 0), DOORS alone", x.saves(0, 2, 0), -2);
        Check.answered(x, "saves(0, 3, 0), nothing at all", x.saves(0, 3, 0), -2);
        Check.answered(x, "saves(3, 3, 0)", x.saves(3, 3, 0), 0);
    }

    private static void savesRefused() {
        WrongRoom x = Check.town(Check.houses(2) + ";street a b minutes 1");
        for (int h : NO_HOUSES) {
            Check.refused(x, "saves(" + h + ", 0, 0)", x.saves(h, 0, 0), 1);
            Check.refused(x, "saves(0, " + h + ", 0)", x.saves(0, h, 0), 1);
            Check.refused(x, "saves(0, " + h + ", -1)", x.saves(0, h, -1), 1);
        }
        for (int minute : NO_MINUTES) {
            Check.refused(x, "saves(0, 1, " + minute + ")", x.saves(0, 1, minute), 2);
        }
        Check.answered(x, "saves(0, 1, 1439)", x.saves(0, 1, 1439), 0);
    }

    private static WrongRoom farTown() {
        return Check.town(Check.houses(5) + Check.wrongs("...e.")
                + ";street a b minutes 5;street a c minutes 5;street a d minutes 4;open d from 23 to 23");
    }

    private static void longest() {
        WrongRoom x = farTown();
        Check.answered(x, "farthest(0, 0)", x.farthest(0, 0), 4);
        Check.answered(x, "farthest(0, 1439)", x.farthest(0, 1439), 4);
        Check.answered(x, "farthest(3, 1439)", x.farthest(3, 1439), 1);
        Check.answered(x, "farthest(3, 0)", x.farthest(3, 0), 4);
        x.shut(3, true);
        Check.answered(x, "farthest(3, 0), SHUT", x.farthest(3, 0), 1);
        WrongRoom seven = Check.town(Check.houses(7) + ";street a b minutes 9;street b c minutes 9;street c d minutes 9"
                + ";street d e minutes 9;street e f minutes 9;street f g minutes 9");
        Check.answered(seven, "farthest(0, 0), the last house", seven.farthest(0, 0), 6);
        Check.answered(seven, "farthest(6, 0), the first house", seven.farthest(6, 0), 0);
        Check.answered(seven, "farthest(3, 0), both are as far", seven.farthest(3, 0), 0);
    }

    private static void alone() {
        WrongRoom x = farTown();
        Check.answered(x, "farthest(4, 0)", x.farthest(4, 0), 4);
        WrongRoom y = Check.town(Check.houses(2));
        Check.answered(y, "farthest(0, 0)", y.farthest(0, 0), 0);
        Check.answered(y, "farthest(1, 0)", y.farthest(1, 0), 1);
    }

    private static void firstOfFar() {
        WrongRoom x = farTown();
        x.shut(3, true);
        Check.answered(x, "farthest(0, 0)", x.farthest(0, 0), 1);
        Check.answered(x, "farthest(1, 0)", x.farthest(1, 0), 2);
        Check.answered(x, "farthest(2, 0)", x.farthest(2, 0), 1);
    }

    private static void farthestRefused() {
        WrongRoom x = Check.town(Check.houses(2) + ";street a b minutes 1");
        for (int h : NO_HOUSES) {
            Check.refused(x, "farthest(" + h + ", 0)", x.farthest(h, 0), 1);
            Check.refused(x, "farthest(" + h + ", -1)", x.farthest(h, -1), 1);
        }
        for (int minute : NO_MINUTES) {
            Check.refused(x, "farthest(0, " + minute + ")", x.farthest(0, minute), 2);
        }
    }

    private static WrongRoom people() {
        return Check.town(Check.houses(3) + Check.wrongs("b..") + ";open a from 1 to 1"
                + ";person p home b at a;person q home c at a;person r home a at a");
    }

    private static void homeFromNowOn() {
        WrongRoom x = people();
        Check.answered(x, "homeIn(0)", x.homeIn(0), 62);
        Check.answered(x, "homeIn(2), at home", x.homeIn(2), 0);
        x.waits(0, 100);
        Check.answered(x, "homeIn(0) at 100", x.homeIn(0), 2);
        x.waits(0, 19);
        Check.answered(x, "homeIn(0) at 119", x.homeIn(0), 2);
        x.waits(0, 1);
        Check.answered(x, "homeIn(0) at 120", x.homeIn(0), 1382);
        WrongRoom y = Check.town(Check.houses(3) + ";street a b minutes 4;street b c minutes 5;person p home a at c");
        Check.answered(y, "homeIn(0)", y.homeIn(0), 9);
        y.go(0, 1);
        Check.answered(y, "homeIn(0), nearer", y.homeIn(0), 4);
    }

    private static void homeOnTheNextDay() {
        WrongRoom x = people();
        x.waits(0, 999);
        x.waits(0, 500);
        Check.answered(x, "homeIn(0) at 1499", x.homeIn(0), 3);
        x.waits(0, 1);
        Check.answered(x, "homeIn(0) at 1500", x.homeIn(0), 2);
        x.waits(0, 60);
        Check.answered(x, "homeIn(0) at 1560", x.homeIn(0), 1382);
        x.waits(0, 999);
        x.waits(0, 321);
        Check.answered(x, "homeIn(0) at 2880, the third day", x.homeIn(0), 62);
    }

    private static void neverHome() {
        WrongRoom x = people();
        Check.answered(x, "homeIn(1)", x.homeIn(1), -2);
        x.shut(0, true);
        Check.answered(x, "homeIn(0), SHUT", x.homeIn(0), -2);
    }

    private static void nobody() {
        WrongRoom x = people();
        for (int p : new int[] {-1, 3, 4, MIN, MAX}) {
            Check.refused(x, "homeIn(" + p + ")", x.homeIn(p), 1);
        }
    }
}
