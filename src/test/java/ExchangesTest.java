/** Promises 28 to 31: paired, fewest, exchangeAt, stands. */
final class ExchangesTest {
    private ExchangesTest() {
    }

    public static void main(String[] args) {
        best("bcda", 4, 2);
        best("badc", 4);
        best("bca", 0);
        best("....", 0);
        best("bc..", 0);
        best("bcdefa", 6, 2, 4);
        best("bcdefga", 4, 2, 4);
        best("bcdea..", 2, 2);
        best("bcaefd.", 6, 3, 1, 15);
        changes();
        stands();
        Check.end();
    }

    private static void best(String wrongs, int paired, int... row) {
        WrongRoom x = Check.town(Check.houses(wrongs.length()) + Check.wrongs(wrongs));
        Check.due("paired() of " + wrongs, x.paired(), paired);
        Check.due("fewest() of " + wrongs, x.fewest(), row.length);
        for (int i = 0; i < row.length; i++) {
            Check.due("exchangeAt(" + i + ") of " + wrongs, x.exchangeAt(i), row[i]);
        }
        Check.due("trouble()", x.trouble(), 0);
        Check.refused(x, "exchangeAt behind the last", x.exchangeAt(row.length), 1);
        Check.refused(x, "exchangeAt(-1)", x.exchangeAt(-1), 1);
        for (int pair : row) {
            Check.due("exchange of " + pair, x.exchange(pair / 10, pair % 10), true);
        }
        Check.due("mutual() then", Integer.bitCount(x.mutual()), paired);
    }

    private static void changes() {
        WrongRoom x = Check.town(Check.houses(4) + Check.wrongs("bcda"));
        Check.due("exchangeAt(0)", x.exchangeAt(0), 2);
        x.exchange(0, 2);
        Check.due("fewest() NOW", x.fewest(), 0);
        Check.due("paired() NOW", x.paired(), 4);
        Check.due("trouble()", x.trouble(), 0);
        x.undo();
        Check.due("fewest() undone", x.fewest(), 1);
        Check.due("mutual(), nothing is done", x.mutual(), 0);
        Check.tell(x, Check.houses(5));
        Check.due("paired() of another town", x.paired(), 0);
    }

    private static void stands() {
        WrongRoom x = Check.town(Check.houses(5) + Check.wrongs("e....")
                + ";street a b minutes 10;street b c minutes 10;street c d minutes 10");
        Check.due("stands(0)", x.stands(0), 0b11111);
        Check.due("stands(9)", x.stands(9), 0b11111);
        Check.due("stands(10), the least bits", x.stands(10), 0b10101);
        Check.due("stands(20)", x.stands(20), 0b10010);
        Check.due("stands(30)", x.stands(30), 0b10001);
        Check.due("stands(999), doors do not count", x.stands(999), 0b10001);
        Check.due("trouble()", x.trouble(), 0);
        Check.refused(x, "stands(-1)", x.stands(-1), 2);
        Check.refused(x, "stands(1000)", x.stands(1000), 2);
        WrongRoom line = Check.town(Check.houses(7) + ";street a b minutes 99;street b c minutes 99"
                + ";street c d minutes 99;street d e minutes 99;street e f minutes 99;street f g minutes 99");
        Check.due("stands(999) of a line", line.stands(999), 1);
        Check.due("stands(593) of a line", line.stands(593), 2);
        Check.due("stands(297) of a line", line.stands(297), 8);
        Check.due("stands(99) of a line", line.stands(99), 0b0100101);
    }
}
