import java.nio.charset.StandardCharsets;
import java.util.ArrayList;
import java.util.List;
import java.util.NoSuchElementException;
import java.util.Random;

/** All promises: random runs of calls, each answered by WrongRoom and by Model. */
final class ModelTest {
    private static final int RUNS = 150;
    private static final int FAULTY_TEXTS = 30000;
    private static final String[] CALLS = {"town", "fault", "where", "house", "open", "street", "person", "candle",
        "candleAt", "mutual", "judge", "way", "wayAt", "saves", "farthest", "homeIn", "fits", "could", "surely",
        "firstOf", "ask", "askLeaves", "owes", "net", "debtor", "paired", "fewest", "exchangeAt", "stands", "gain",
        "rests", "rest", "builders", "builtOf", "exchange", "shut", "go", "waits", "undo", "mark", "back", "led",
        "size", "exchange", "shut", "go", "waits", "go", "exchange", "exchange"};

    private final Random random;
    private final WrongRoom x = new WrongRoom();
    private final Model model = new Model();
    private final StringBuilder run = new StringBuilder();

    private ModelTest(long seed) {
        random = new Random(seed);
    }

    public static void main(String[] args) {
        for (int seed = 0; seed < RUNS; seed++) {
            new ModelTest(seed).calls();
        }
        for (int seed = 0; seed < FAULTY_TEXTS; seed++) {
            ModelTest t = new ModelTest(seed);
            t.tell(t.broken(t.text()));
            t.compare("size", 2 + t.up(6));
        }
        Check.end();
    }

    private void calls() {
        for (int i = 0; i < 6; i++) {
            anyCall();
        }
        tell(text());
        int calls = 0;
        while (calls < 200) {
            anyCall();
            calls++;
            if (up(60) == 0) {
                tell(up(3) == 0 ? broken(text()) : text());
            }
        }
    }

    private void anyCall() {
        String name = CALLS[up(CALLS.length)];
        compare(name, arguments(name));
    }

    private int up(int n) {
        return random.nextInt(n);
    }

    private int near(int n) {
        return up(8) == 0 ? up(3) * 100 - 100 : up(n + 1) - (up(9) == 0 ? 1 : 0);
    }

    private int minute() {
        return up(12) == 0 ? new int[] {-1, 1440, Integer.MIN_VALUE, Integer.MAX_VALUE}[up(4)] : up(1440);
    }

    private int[] arguments(String name) {
        int h = near(6);
        int g = near(6);
        int p = near(3);
        switch (name) {
            case "town": return new int[] {up(5) == 0 ? 0 : Integer.MAX_VALUE - up(2)};
            case "house": return new int[] {h, near(6)};
            case "open": return new int[] {h, minute()};
            case "street": case "rests": case "rest": case "exchange": return new int[] {h, g};
            case "person": return new int[] {p, near(3)};
            case "candleAt": return new int[] {h, near(10)};
            case "way": case "saves": return new int[] {h, g, minute()};
            case "wayAt": return new int[] {h, g, minute(), near(5)};
            case "farthest": return new int[] {h, minute()};
            case "homeIn": return new int[] {p};
            case "candle": case "could": case "surely": case "firstOf": return new int[] {h};
            case "owes": case "net": case "shut": return new int[] {h, up(2)};
            case "exchangeAt": return new int[] {near(3)};
            case "stands": return new int[] {up(4) == 0 ? near(1000) : up(150)};
            case "gain": return new int[] {h, near(10), g, near(10), up(2)};
            case "builders": return new int[] {near(65537), near(61)};
            case "builtOf": return new int[] {h, near(65537), near(61)};
            case "go": return new int[] {p, h};
            case "waits": return new int[] {p, up(3) == 0 ? near(1000) : up(600)};
            case "back": return new int[] {near(3)};
            case "led": return new int[] {near(3)};
            case "size": return new int[] {near(13)};
            default: return new int[0];
        }
    }

    private void compare(String name, int... a) {
        long got = real(name, a);
        long due = model.call(name, a);
        run.append(name).append(java.util.Arrays.toString(a)).append('=').append(due).append(' ');
        if (got != due) {
            Check.due(run.toString(), got, due);
            Check.end();
        }
        if (!name.equals("trouble")) {
            compare("trouble");
        }
    }

    private long real(String name, int[] a) {
        switch (name) {
            case "feed": return x.feed(a[0], a[1], a[2], a[3], a[4]);
            case "town": return x.town(a[0]);
            case "fault": return x.fault();
            case "where": return x.where();
            case "house": return x.house(a[0], a[1]);
            case "open": return x.open(a[0], a[1]);
            case "street": return x.street(a[0], a[1]);
            case "person": return x.person(a[0], a[1]);
            case "candle": return x.candle(a[0]);
            case "candleAt": return x.candleAt(a[0], a[1]);
            case "mutual": return x.mutual();
            case "judge": return x.judge();
            case "way": return x.way(a[0], a[1], a[2]);
            case "wayAt": return x.wayAt(a[0], a[1], a[2], a[3]);
            case "saves": return x.saves(a[0], a[1], a[2]);
            case "farthest": return x.farthest(a[0], a[1]);
            case "homeIn": return x.homeIn(a[0]);
            case "fits": return x.fits();
            case "could": return x.could(a[0]);
            case "surely": return x.surely(a[0]);
            case "firstOf": return x.firstOf(a[0]);
            case "ask": return x.ask();
            case "askLeaves": return x.askLeaves();
            case "owes": return x.owes(a[0], a[1] != 0);
            case "net": return x.net(a[0], a[1] != 0);
            case "debtor": return x.debtor();
            case "paired": return x.paired();
            case "fewest": return x.fewest();
            case "exchangeAt": return x.exchangeAt(a[0]);
            case "stands": return x.stands(a[0]);
            case "gain": return x.gain(a[0], a[1], a[2], a[3], a[4] != 0);
            default: return realAct(name, a);
        }
    }

    private long realAct(String name, int[] a) {
        switch (name) {
            case "rests": return x.rests(a[0], a[1]);
            case "rest": return x.rest(a[0], a[1]);
            case "builders": return x.builders(a[0], a[1]);
            case "builtOf": return x.builtOf(a[0], a[1], a[2]);
            case "exchange": return x.exchange(a[0], a[1]) ? 1 : 0;
            case "shut": return x.shut(a[0], a[1] != 0) ? 1 : 0;
            case "go": return x.go(a[0], a[1]);
            case "waits": return x.waits(a[0], a[1]);
            case "undo": return x.undo() ? 1 : 0;
            case "mark": return x.mark();
            case "back": return x.back(a[0]) ? 1 : 0;
            case "led": return realLed(a[0]);
            case "size": return x.size(a[0]);
            case "trouble": return x.trouble();
            default: throw new IllegalStateException(name);
        }
    }

    private long realLed(int i) {
        try {
            return x.led(i);
        } catch (NoSuchElementException e) {
            return Integer.MIN_VALUE;
        }
    }

    // ---- texts

    private void tell(String text) {
        run.append('"').append(text).append("\" ");
        byte[] bytes = text.getBytes(StandardCharsets.ISO_8859_1);
        for (int i = 0; i < bytes.length; i += 20) {
            compare("feed", Check.number(bytes, i), Check.number(bytes, i + 4), Check.number(bytes, i + 8),
                    Check.number(bytes, i + 12), Check.number(bytes, i + 16));
        }
        compare("town", text.length());
        compare("fault");
        compare("where");
    }

    private String name(int h) {
        return String.valueOf((char) ('a' + h));
    }

    private String text() {
        int houses = 2 + up(6);
        String[] smells = {"tea", "soap", "house"};
        int kinds = 1 + up(3);
        List<String> lines = new ArrayList<>();
        for (int h = 0; h < houses; h++) {
            lines.add("house " + name(h) + " rooms " + (1 + up(up(2) == 0 ? 9 : 3)) + " rent " + (1 + up(99))
                    + " bill " + up(up(3) == 0 ? 1 : 1000) + " smells " + smells[up(kinds)]);
        }
        addWrongs(lines, houses);
        addStreets(lines, houses);
        for (int h = 0; h < houses; h++) {
            if (up(2) == 0) {
                int from = up(24);
                lines.add("open " + name(h) + " from " + from + " to " + (from + up(24 - from)));
            }
        }
        for (int p = up(5); p > 0; p--) {
            lines.add("person p" + "qrstu".charAt(p) + " home " + name(up(houses)) + " at " + name(up(houses)));
        }
        for (int s = up(2) * up(9); s > 0; s--) {
            lines.add("sign " + name(up(houses)) + " " + smells[up(kinds)]);
        }
        for (int s = up(2) * up(5); s > 0; s--) {
            lines.add("noise " + name(up(houses)) + " " + (1 + up(up(2) == 0 ? 9 : 3)));
        }
        String text = "town door " + (1 + up(9)) + " like " + up(10);
        for (String line : lines) {
            // A text must fit the tape, which houses told at length can fill.
            if (text.length() + line.length() < 1099) {
                text += ";" + line;
            }
        }
        return text;
    }

    private void addWrongs(List<String> lines, int houses) {
        List<Integer> of = new ArrayList<>();
        for (int h = 0; h < houses; h++) {
            of.add(h);
        }
        java.util.Collections.shuffle(of, random);
        int known = up(3) == 0 ? 100 : up(100);
        for (int h = 0; h < houses; h++) {
            if (of.get(h) != h && up(100) < known) {
                lines.add("wrong " + name(h) + " of " + name(of.get(h)));
            }
        }
    }

    private void addStreets(List<String> lines, int houses) {
        List<String> pairs = new ArrayList<>();
        for (int h = 0; h < houses; h++) {
            for (int g = 0; g < houses; g++) {
                if (h < g) {
                    pairs.add(up(2) == 0 ? name(h) + " " + name(g) : name(g) + " " + name(h));
                }
            }
        }
        java.util.Collections.shuffle(pairs, random);
        int most = up(2) == 0 ? 99 : 3;
        for (int i = Math.min(pairs.size(), up(11)); i > 0; i--) {
            lines.add("street " + pairs.get(i - 1) + " minutes " + (1 + up(most)));
        }
    }

    private String broken(String text) {
        String[] words = {"town", "house", "a", "g", "pr", "tea", "of", "10", "0", "24", "1000", "99", ";", "minutes",
            "abcdefgh", "abcdefghi", "A", "wrong", "open", "street", "person", "sign", "noise", "007", "  "};
        String[] parts = text.split("(?<=[ ;])|(?=[ ;])");
        List<String> all = new ArrayList<>(List.of(parts));
        for (int changes = 1 + up(2); changes > 0 && !all.isEmpty(); changes--) {
            int i = up(all.size());
            switch (up(6)) {
                case 0 -> all.remove(i);
                case 1 -> all.add(i, " " + words[up(words.length)] + " ");
                case 2 -> all.add(i, all.get(up(all.size())));
                case 3 -> repeatLine(all);
                case 4 -> all = new ArrayList<>(all.subList(0, i));
                default -> all.set(i, words[up(words.length)]);
            }
        }
        String broken = String.join("", all);
        return broken.length() <= 1100 ? broken : broken.substring(0, 1100);
    }

    /** A line told again, as it is or with other words in it, is what FAULTS 3 and 5 come from. */
    private void repeatLine(List<String> all) {
        String[] lines = String.join("", all).split(";");
        String line = lines[up(lines.length)];
        all.add(";");
        all.add(up(2) == 0 ? line : line.replace(" a", " b").replace(" c", " d"));
    }
}
