import java.nio.charset.StandardCharsets;
import java.util.NoSuchElementException;

/** What the project's tests share: answers against those that are due, and towns told as texts. */
final class Check {
    static final String TOWN = "town door 2 like 0";
    static final String TWO = TOWN + ";" + house("a", 3, 100, "x") + ";" + house("b", 5, 60, "y");

    private static int wrong = 0;
    private static int looks = 0;
    private static String under = "";

    private Check() {
    }

    /** Some words of the document with a test of their own; PromisesTest looks whether they stand there. */
    static void promise(int number, String words, Runnable test) {
        under = "promise " + number + ", \"" + words + "\": ";
        int before = looks;
        test.run();
        due("whether the test looks at anything", looks > before, true);
        under = "";
    }

    static void due(String call, long got, long want) {
        looks++;
        if (got != want) {
            wrong++;
            System.out.println(under + call + " answered " + got + ", due is " + want);
        }
    }

    static void due(String call, boolean got, boolean want) {
        due(call, got ? 1 : 0, want ? 1 : 0);
    }

    /** The answer of the latest call and the TROUBLE that it leaves. */
    static void refused(WrongRoom x, String call, long got, long want, int trouble) {
        due(call, got, want);
        due("trouble() behind " + call, x.trouble(), trouble);
    }

    static void refused(WrongRoom x, String call, long got, int trouble) {
        refused(x, call, got, WrongRoom.NONE, trouble);
    }

    static void denied(WrongRoom x, String call, boolean got, int trouble) {
        refused(x, call, got ? 1 : 0, 0, trouble);
    }

    static void answered(WrongRoom x, String call, long got, long want) {
        refused(x, call, got, want, 0);
    }

    /** All that can be asked of what is told and what is NOW, but TROUBLE. */
    static String state(WrongRoom x) {
        StringBuilder text = new StringBuilder();
        for (int what = 0; what <= 12; what++) {
            text.append(x.size(what)).append(' ');
        }
        for (int h = 0; h < x.size(2); h++) {
            for (int what = 0; what < 6; what++) {
                text.append(x.house(h, what)).append(' ');
            }
        }
        for (int p = 0; p < x.size(6); p++) {
            for (int what = 0; what < 3; what++) {
                text.append(x.person(p, what)).append(' ');
            }
        }
        return text.toString();
    }

    static void unchanged(WrongRoom x, String call, String before) {
        due("nothing is changed by " + call, state(x).equals(before), true);
    }

    static void ledThrows(WrongRoom x, int i) {
        boolean thrown = false;
        try {
            x.led(i);
        } catch (NoSuchElementException e) {
            thrown = true;
        }
        due("led(" + i + ") throws", thrown, true);
    }

    static void end() {
        if (wrong > 0) {
            System.out.println(wrong + " answers are not as due");
            System.exit(1);
        }
    }

    static String house(String name, int rooms, int bill, String smell) {
        return "house " + name + " rooms " + rooms + " rent 10 bill " + bill + " smells " + smell;
    }

    /** So many houses a, b, c .., of three rooms, which smell of x, with nothing to pay. */
    static String houses(int n) {
        StringBuilder text = new StringBuilder(TOWN);
        for (int h = 0; h < n; h++) {
            text.append(';').append(house(String.valueOf((char) ('a' + h)), 3, 0, "x"));
        }
        return text.toString();
    }

    /** Wrong rooms as a row: "bca" is a of b, b of c, c of a; a dot is not known. */
    static String wrongs(String row) {
        StringBuilder text = new StringBuilder();
        for (int h = 0; h < row.length(); h++) {
            if (row.charAt(h) != '.') {
                text.append(";wrong ").append((char) ('a' + h)).append(" of ").append(row.charAt(h));
            }
        }
        return text.toString();
    }

    static void feed(WrongRoom x, String text) {
        byte[] bytes = text.getBytes(StandardCharsets.ISO_8859_1);
        for (int i = 0; i < bytes.length; i += 20) {
            x.feed(number(bytes, i), number(bytes, i + 4), number(bytes, i + 8), number(bytes, i + 12),
                    number(bytes, i + 16));
        }
    }

    static int number(byte[] bytes, int from) {
        int number = 0;
        for (int i = from; i < from + 4; i++) {
            number = number << 8 | (i < bytes.length ? bytes[i] & 255 : 32);
        }
        return number;
    }

    static int tell(WrongRoom x, String text) {
        feed(x, text);
        return x.town(text.length());
    }

    static WrongRoom town(String text) {
        WrongRoom x = new WrongRoom();
        if (tell(x, text) < 2) {
            due("town of \"" + text + "\" has fault", x.fault(), 0);
        }
        return x;
    }

    static void fault(String text, int number, int place) {
        WrongRoom x = new WrongRoom();
        refused(x, "town of \"" + text + "\"", tell(x, text), 4);
        due("fault() of \"" + text + "\"", x.fault(), number);
        due("where() of \"" + text + "\"", x.where(), place);
    }
}
