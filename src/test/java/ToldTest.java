/** Promises 44 to 46: led, size, trouble. */
final class ToldTest {
    private ToldTest() {
    }

    public static void main(String[] args) {
        led();
        size();
        trouble();
        Check.end();
    }

    private static void led() {
        WrongRoom x = Check.town(Check.houses(2) + ";street a b minutes 1;person p home a at b;person q home b at b"
                + ";person r home a at a;person s home b at a");
        Check.due("led(0)", x.led(0), 1);
        Check.due("led(1)", x.led(1), 2);
        Check.ledThrows(x, 2);
        Check.ledThrows(x, -1);
        Check.ledThrows(x, Integer.MIN_VALUE);
        Check.ledThrows(x, Integer.MAX_VALUE);
        x.go(0, 0);
        Check.due("led(0) NOW", x.led(0), 0);
        Check.due("led(2) NOW", x.led(2), 2);
        Check.ledThrows(x, 3);
        Check.ledThrows(Check.town(Check.houses(2)), 0);
    }

    private static void size() {
        String text = "town door 7 like 6;house a rooms 1 rent 1 bill 1 smells x;house b rooms 1 rent 1 bill 1 smells x"
                + ";house c rooms 1 rent 1 bill 1 smells x;house d rooms 1 rent 1 bill 1 smells x"
                + Check.wrongs("bcd.") + ";open a from 1 to 2;open d from 0 to 23;street a b minutes 1"
                + ";person p home a at b;sign a x;sign a x;sign d x;noise a 1;noise b 1";
        WrongRoom x = Check.town(text);
        x.shut(0, true);
        x.shut(3, true);
        x.waits(0, 3);
        x.mark();
        x.feed(0, 0, 0, 0, 0);
        int[] due = {7, 6, 4, 3, 2, 1, 1, 3, 2, 2, 3, 1, 20};
        for (int what = 0; what < due.length; what++) {
            Check.due("size(" + what + ")", x.size(what), due[what]);
        }
        Check.due("size(-1)", x.size(-1), -1);
        Check.due("size(13)", x.size(13), -1);
        Check.due("size(MIN)", x.size(Integer.MIN_VALUE), -1);
    }

    /** What can't be refused by a number leaves TROUBLE as it is; what can, and isn't, makes it 0. */
    private static void trouble() {
        WrongRoom x = Check.town(Check.houses(2));
        x.waits(0, 5);
        Check.due("trouble()", x.trouble(), 1);
        x.size(-1);
        x.fault();
        x.where();
        x.feed(0, 0, 0, 0, 0);
        Check.ledThrows(x, 0);
        Check.due("trouble() again", x.trouble(), 1);
        x.town(99);
        Check.due("trouble() of a number", x.trouble(), 2);
        x.judge();
        Check.due("trouble() of -2", x.trouble(), 0);
        x.town(20);
        Check.due("trouble() of a fault", x.trouble(), 4);
        x.shut(0, false);
        Check.due("trouble() of not so", x.trouble(), 5);
        x.undo();
        Check.due("trouble() of none", x.trouble(), 6);
        for (int i = 0; i < 4; i++) {
            x.mark();
        }
        Check.due("trouble() of no room", x.trouble(), 3);
        x.owes(0, true);
        Check.due("trouble() of owes", x.trouble(), 0);
        x.net(9, true);
        Check.due("trouble() of net", x.trouble(), 1);
        x.net(0, true);
        Check.due("trouble() of net", x.trouble(), 0);
    }
}
