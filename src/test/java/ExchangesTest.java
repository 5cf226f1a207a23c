/** Promises 28 to 31: paired, fewest, exchangeAt, stands. */
final class ExchangesTest {
    private static final int MIN = Integer.MIN_VALUE;
    private static final int MAX = Integer.MAX_VALUE;

    private ExchangesTest() {
    }

    public static void main(String[] args) {
        paired();
        fewest();
        exchangeAt();
        stands();
        Check.end();
    }

    private static void paired() {
        Check.promise(28, "How many houses are EACH OTHER'S by the BEST ROW.", ExchangesTest::mostHouses);
        Check.promise(28, "of all rows of up to three EXCHANGES that by which most houses are EACH OTHER'S",
                ExchangesTest::rowsOfThree);
        Check.promise(28, "How many houses are EACH OTHER'S by the BEST ROW.", ExchangesTest::noneCanBe);
        Check.promise(28, "How many houses are EACH OTHER'S by the BEST ROW.", ExchangesTest::roomsNow);
        Check.promise(28, "NONE: 1 (no TOWN).", ExchangesTest::withoutTown);
    }

    private static void fewest() {
        Check.promise(29, "How many EXCHANGES it has.", ExchangesTest::emptyRow);
        Check.promise(29, "of like ones the shortest", ExchangesTest::shortest);
        Check.promise(29, "How many EXCHANGES it has.", ExchangesTest::nothingIsDone);
        Check.promise(29, "NONE: 1 (no TOWN).", ExchangesTest::withoutTown);
    }

    private static void exchangeAt() {
        Check.promise(30, "The i-th of these.", ExchangesTest::rowByRow);
        Check.promise(30, "of these the first by its EXCHANGES", ExchangesTest::firstOfLike);
        Check.promise(30, "each 10 times the lesser house and the other.", ExchangesTest::tenTimesTheLesser);
        Check.promise(30, "EXCHANGE of two houses: their wrong rooms are each of the house of which the other's was (known"
                + " ones; not if one's would be its own then). BEST ROW:", ExchangesTest::eachCanBeDone);
        Check.promise(30, "NONE: 1 (i, too).", ExchangesTest::noSuchExchange);
        Check.promise(30, "NONE: 1 (i, too).", ExchangesTest::withoutTown);
    }

    private static void stands() {
        Check.promise(31, "STANDS: the fewest houses from which every house is reached in so many minutes",
                ExchangesTest::justSoFar);
        Check.promise(31, "by streets alone", ExchangesTest::streetsAlone);
        Check.promise(31, "of like ones the least bits.", ExchangesTest::leastBits);
        Check.promise(31, "STANDS (0 .. 999 minutes), as bits.", ExchangesTest::zeroAndMostMinutes);
        Check.promise(31, "NONE: 1 (no TOWN); 2.", ExchangesTest::standsRefused);
    }

    private static WrongRoom rooms(String wrongs) {
        return Check.town(Check.houses(wrongs.length()) + Check.wrongs(wrongs));
    }

    private static void best(String wrongs, int paired, int... row) {
        WrongRoom x = rooms(wrongs);
        Check.answered(x, "paired() of " + wrongs, x.paired(), paired);
        Check.answered(x, "fewest() of " + wrongs, x.fewest(), row.length);
        for (int i = 0; i < row.length; i++) {
            Check.answered(x, "exchangeAt(" + i + ") of " + wrongs, x.exchangeAt(i), row[i]);
        }
        for (int pair : row) {
            Check.due("exchange of " + pair, x.exchange(pair / 10, pair % 10), true);
        }
        Check.due("mutual() then", Integer.bitCount(x.mutual()), paired);
    }

    private static void mostHouses() {
        best("bcda", 4, 2);
        best("bcdefa", 6, 2, 4);
        best("bcdefga", 4, 2, 4);
        best("bcdea..", 2, 2);
        best("badcgef", 4);
    }

    private static void rowsOfThree() {
        best("bcaefd.", 6, 3, 1, 15);
        best("bcaef.", 4, 3, 1, 34);
        best("bcaefg.", 4, 3, 1, 15);
        best("bcdeag.", 4, 2, 5, 3);
    }

    private static void noneCanBe() {
        best("..", 0);
        best("b.", 0);
        best("bca", 0);
        best(".......", 0);
        best("bc.....", 0);
    }

    private static void roomsNow() {
        WrongRoom x = rooms("bcda");
        Check.due("paired()", x.paired(), 4);
        Check.due("fewest()", x.fewest(), 1);
        x.exchange(0, 2);
        Check.due("paired() NOW", x.paired(), 4);
        Check.due("fewest() NOW", x.fewest(), 0);
        x.undo();
        Check.due("fewest() undone", x.fewest(), 1);
        Check.tell(x, Check.houses(5));
        Check.due("paired() of another town", x.paired(), 0);
        Check.tell(x, Check.houses(5) + Check.wrongs("ba..."));
        Check.due("paired() of a third", x.paired(), 2);
        Check.tell(x, Check.houses(5) + Check.wrongs(".a..."));
        Check.due("paired() of one room less", x.paired(), 0);
        Check.tell(x, Check.houses(7) + Check.wrongs("bcdefga"));
        Check.due("exchangeAt(1) of seven", x.exchangeAt(1), 4);
        Check.tell(x, Check.houses(7) + Check.wrongs("gabcdef"));
        Check.due("exchangeAt(1) of seven others", x.exchangeAt(1), 24);
    }

    private static void withoutTown() {
        WrongRoom x = new WrongRoom();
        Check.refused(x, "paired()", x.paired(), 1);
        Check.refused(x, "fewest()", x.fewest(), 1);
        Check.refused(x, "exchangeAt(0)", x.exchangeAt(0), 1);
        Check.refused(x, "exchangeAt(-1)", x.exchangeAt(-1), 1);
    }

    private static void emptyRow() {
        best("badc", 4);
        best("ba", 2);
        best("badcfe.", 6);
        WrongRoom x = rooms("badc");
        Check.refused(x, "exchangeAt(0) of no EXCHANGES", x.exchangeAt(0), 1);
    }

    private static void shortest() {
        best("cdab", 4);
        best("bcda", 4, 2);
        best("egabcdf", 4, 15);
        best(".gfb..c", 2, 12);
    }

    private static void nothingIsDone() {
        WrongRoom x = Check.town(Check.houses(7) + Check.wrongs("bcaefd."));
        String before = Check.state(x);
        x.paired();
        x.fewest();
        x.exchangeAt(2);
        Check.unchanged(x, "the BEST ROW", before);
    }

    private static void rowByRow() {
        WrongRoom x = rooms("bcaefd.");
        Check.answered(x, "exchangeAt(2)", x.exchangeAt(2), 15);
        Check.answered(x, "exchangeAt(0)", x.exchangeAt(0), 3);
        Check.answered(x, "exchangeAt(1)", x.exchangeAt(1), 1);
    }

    private static void firstOfLike() {
        best("bcda", 4, 2);
        best("dabc", 4, 2);
        best("cadb", 4, 3);
        best("fabcde", 6, 2, 24);
        best("gabcdef", 4, 2, 24);
    }

    private static void tenTimesTheLesser() {
        best(".cdefgb", 6, 13, 15);
        best("egabcdf", 4, 15);
        best("..dfce.", 4, 25);
        best("...efgd", 4, 35);
    }

    private static void eachCanBeDone() {
        best("bc..", 0);
        best("bca.", 0);
        best("bcd.", 2, 2);
    }

    private static void noSuchExchange() {
        WrongRoom x = rooms("bcaefd.");
        for (int i : new int[] {-1, 3, MIN, MAX}) {
            Check.refused(x, "exchangeAt(" + i + ")", x.exchangeAt(i), 1);
        }
        WrongRoom one = rooms("bcda");
        Check.refused(one, "exchangeAt(1)", one.exchangeAt(1), 1);
        Check.refused(one, "exchangeAt(2)", one.exchangeAt(2), 1);
    }

    private static WrongRoom line() {
        return Check.town(Check.houses(5) + Check.wrongs("e....")
                + ";street a b minutes 10;street b c minutes 10;street c d minutes 10");
    }

    private static void justSoFar() {
        WrongRoom x = line();
        Check.answered(x, "stands(9)", x.stands(9), 0b11111);
        Check.answered(x, "stands(10)", x.stands(10), 0b10101);
        Check.answered(x, "stands(19)", x.stands(19), 0b10101);
        Check.answered(x, "stands(20)", x.stands(20), 0b10010);
        Check.answered(x, "stands(29)", x.stands(29), 0b10010);
        Check.answered(x, "stands(30)", x.stands(30), 0b10001);
        WrongRoom around = Check.town(Check.houses(3)
                + ";street a b minutes 50;street b c minutes 4;street a c minutes 5");
        Check.answered(around, "stands(8), by another house", around.stands(8), 0b100);
        Check.answered(around, "stands(9), by another house", around.stands(9), 0b001);
        WrongRoom first = Check.town(Check.houses(4)
                + ";street a b minutes 4;street a c minutes 5;street b d minutes 9");
        Check.answered(first, "stands(9), through the first house", first.stands(9), 0b0010);
    }

    private static void streetsAlone() {
        WrongRoom x = line();
        Check.answered(x, "stands(999)", x.stands(999), 0b10001);
        Check.due("stands(999), DOORS alone", Check.town(Check.houses(4) + Check.wrongs("bcda")).stands(999), 0b1111);
    }

    private static void leastBits() {
        WrongRoom x = line();
        Check.answered(x, "stands(10)", x.stands(10), 0b10101);
        Check.due("stands(5) of a pair", Check.town(Check.houses(2) + ";street a b minutes 5").stands(5), 1);
        WrongRoom seven = sevenInLine();
        Check.answered(seven, "stands(594)", seven.stands(594), 1);
        Check.answered(seven, "stands(593)", seven.stands(593), 2);
        Check.answered(seven, "stands(297)", seven.stands(297), 8);
        Check.answered(seven, "stands(296)", seven.stands(296), 0b0010001);
        Check.answered(seven, "stands(99)", seven.stands(99), 0b0100101);
    }

    private static WrongRoom sevenInLine() {
        return Check.town(Check.houses(7) + ";street a b minutes 99;street b c minutes 99"
                + ";street c d minutes 99;street d e minutes 99;street e f minutes 99;street f g minutes 99");
    }

    private static void zeroAndMostMinutes() {
        for (int n = 2; n <= 7; n++) {
            WrongRoom x = Check.town(Check.houses(n) + ";street a b minutes 1");
            Check.answered(x, "stands(0) of " + n, x.stands(0), (1 << n) - 1);
            Check.answered(x, "stands(999) of " + n, x.stands(999), (1 << n) - 3);
        }
        Check.answered(sevenInLine(), "stands(999)", sevenInLine().stands(999), 1);
    }

    private static void standsRefused() {
        WrongRoom x = line();
        for (int minutes : new int[] {-1, 1000, MIN, MAX}) {
            Check.refused(x, "stands(" + minutes + ")", x.stands(minutes), 2);
        }
        WrongRoom none = new WrongRoom();
        Check.refused(none, "stands(0) without a TOWN", none.stands(0), 1);
        Check.refused(none, "stands(-1) without a TOWN", none.stands(-1), 1);
        Check.refused(none, "stands(1000) without a TOWN", none.stands(1000), 1);
    }
}
