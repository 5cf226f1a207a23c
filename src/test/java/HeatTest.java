/** Promises 25 to 27: owes, net, debtor. */
final class HeatTest {
    private HeatTest() {
    }

    public static void main(String[] args) {
        String text = Check.TOWN + ";" + Check.house("a", 3, 10, "x") + ";" + Check.house("b", 5, 15, "x") + ";"
                + Check.house("c", 9, 999, "x") + ";" + Check.house("d", 1, 0, "x");
        WrongRoom x = Check.town(text + Check.wrongs("bca."));
        fraction(x, 0, 999, 10, 10 * 5 - 999 * 2, 20);
        fraction(x, 1, 5, 2, 0, 1);
        fraction(x, 2, 5, 2, 999 - 25, 10);
        fraction(x, 3, 0, 1, 0, 1);
        Check.due("debtor()", x.debtor(), 0);
        x.exchange(0, 1);
        Check.due("an exchange that would be of its own", x.trouble(), 5);
        refusals(x);
        debtors(text);
        Check.end();
    }

    private static void fraction(WrongRoom x, int h, long upper, long lower, long netUpper, long netLower) {
        long common = common(Math.abs(netUpper), netLower);
        Check.due("owes(" + h + ", false)", x.owes(h, false), upper);
        Check.due("owes(" + h + ", true)", x.owes(h, true), lower);
        Check.due("net(" + h + ", false)", x.net(h, false), netUpper / common);
        Check.due("net(" + h + ", true)", x.net(h, true), netLower / common);
        Check.due("trouble()", x.trouble(), 0);
    }

    private static long common(long a, long b) {
        return b == 0 ? a : common(b, a % b);
    }

    private static void refusals(WrongRoom x) {
        Check.refused(x, "owes(4, false)", x.owes(4, false), 1);
        Check.refused(x, "owes(-1, true)", x.owes(-1, true), 1);
        Check.refused(x, "net(4, false)", x.net(4, false), Long.MIN_VALUE, 1);
        Check.refused(x, "net(-1, true)", x.net(-1, true), Long.MIN_VALUE, 1);
    }

    private static void debtors(String text) {
        Check.due("debtor(), nothing is known", Check.town(text).debtor(), -2);
        WrongRoom none = Check.town(text + Check.wrongs("...a"));
        Check.due("debtor() of 0", none.debtor(), -2);
        Check.due("owes(0, true) of 0", none.owes(0, true), 1);
        Check.due("trouble()", none.trouble(), 0);
        WrongRoom like = Check.town(text + Check.wrongs("ca.."));
        Check.due("debtor(), the first of like ones", like.debtor(), 0);
        WrongRoom less = Check.town(text + Check.wrongs("c.b."));
        Check.due("debtor(), the most", less.debtor(), 1);
        less.exchange(0, 2);
        Check.due("an exchange that would be of its own", less.trouble(), 5);
        WrongRoom four = Check.town(text + Check.wrongs("badc"));
        Check.due("debtor()", four.debtor(), 3);
        four.exchange(0, 2);
        Check.due("debtor() NOW", four.debtor(), 1);
        Check.due("owes(1, false) NOW", four.owes(1, false), 999);
    }
}
