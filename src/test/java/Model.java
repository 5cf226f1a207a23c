import java.util.ArrayDeque;
import java.util.ArrayList;
import java.util.Arrays;
import java.util.Deque;
import java.util.HashMap;
import java.util.List;
import java.util.Map;
import java.util.Set;
import java.util.TreeMap;

/** The document written a second time, as plainly as can be, with the whole library: all is tried, nothing kept. */
final class Model {
    private static final Set<String> SORTS =
            Set.of("town", "house", "wrong", "open", "street", "person", "sign", "noise");

    private static final class Fault extends Exception {
        private static final long serialVersionUID = 1L;
        final int number;
        final int place;

        Fault(int number, int place) {
            this.number = number;
            this.place = place;
        }
    }

    private record Token(char kind, String text, int place) {
    }

    private record Street(int one, int other, int minutes) {
    }

    private record Sign(int house, String smell) {
    }

    private record Noise(int house, int rooms) {
    }

    private static final class Told {
        int door = 0;
        int like = 0;
        final List<String> names = new ArrayList<>();
        final List<int[]> houses = new ArrayList<>();
        final List<String> smells = new ArrayList<>();
        final Map<Integer, Integer> wrong = new TreeMap<>();
        final Map<Integer, int[]> hours = new HashMap<>();
        final List<Street> streets = new ArrayList<>();
        final List<String> peopleNames = new ArrayList<>();
        final List<int[]> people = new ArrayList<>();
        final List<Sign> signs = new ArrayList<>();
        final List<Noise> noises = new ArrayList<>();
    }

    private static final class State {
        int[] of = new int[0];
        boolean[] shut = new boolean[0];
        int[] at = new int[0];
        int[] minutes = new int[0];

        State copy() {
            State s = new State();
            s.of = of.clone();
            s.shut = shut.clone();
            s.at = at.clone();
            s.minutes = minutes.clone();
            return s;
        }
    }

    private String tape = "";
    private Told town = new Told();
    private State now = new State();
    private final Deque<State> acts = new ArrayDeque<>();
    private final List<State> marks = new ArrayList<>();
    private int trouble = 0;
    private int fault = 0;
    private int place = -1;

    // ---- the text

    private static List<Token> tokens(String text) {
        List<Token> found = new ArrayList<>();
        int i = 0;
        while (i < text.length()) {
            char c = text.charAt(i);
            int j = i;
            if (c == ' ') {
                i++;
                continue;
            }
            if (c >= 'a' && c <= 'z') {
                while (j < text.length() && text.charAt(j) >= 'a' && text.charAt(j) <= 'z') {
                    j++;
                }
                found.add(new Token(j - i > 8 ? '!' : 'w', text.substring(i, j), i));
            } else if (c >= '0' && c <= '9') {
                while (j < text.length() && text.charAt(j) >= '0' && text.charAt(j) <= '9') {
                    j++;
                }
                found.add(new Token(j - i > 3 ? '!' : 'n', text.substring(i, j), i));
            } else {
                j = i + 1;
                found.add(new Token(c == ';' ? ';' : '!', text.substring(i, j), i));
            }
            i = j;
        }
        found.add(new Token('$', "", text.length()));
        return found;
    }

    private static final class Parse {
        final List<Token> tokens;
        int next = 0;
        Token last = null;
        final Told t = new Told();
        boolean hasTown = false;

        Parse(String text) {
            tokens = tokens(text);
        }

        Token take() {
            last = tokens.get(next++);
            return last;
        }

        Fault at(int number) {
            return new Fault(number, last.place());
        }

        String word() throws Fault {
            if (take().kind() != 'w') {
                throw at(1);
            }
            return last.text();
        }

        void fixed(String due) throws Fault {
            if (!word().equals(due)) {
                throw at(1);
            }
        }

        int whole(int least, int most) throws Fault {
            if (take().kind() != 'n') {
                throw at(1);
            }
            int n = Integer.parseInt(last.text());
            if (n < least || n > most) {
                throw at(4);
            }
            return n;
        }

        String name() throws Fault {
            String w = word();
            if (SORTS.contains(w)) {
                throw at(1);
            }
            return w;
        }

        String newName() throws Fault {
            String n = name();
            if (t.names.contains(n) || t.peopleNames.contains(n)) {
                throw at(3);
            }
            return n;
        }

        int house() throws Fault {
            int h = t.names.indexOf(name());
            if (h < 0) {
                throw at(2);
            }
            return h;
        }

        void again(boolean is) throws Fault {
            if (is) {
                throw at(3);
            }
        }

        void room(List<?> list, int most) throws Fault {
            if (list.size() == most) {
                throw at(5);
            }
        }

        Told all() throws Fault {
            do {
                line();
                take();
                if (last.kind() != ';' && last.kind() != '$') {
                    throw at(1);
                }
            } while (last.kind() == ';');
            if (t.names.size() < 2) {
                throw at(6);
            }
            return t;
        }

        void line() throws Fault {
            String sort = word();
            if (!SORTS.contains(sort)) {
                throw at(1);
            }
            if (!sort.equals("town") && !hasTown) {
                throw at(6);
            }
            switch (sort) {
                case "town" -> {
                    again(hasTown);
                    fixed("door");
                    t.door = whole(1, 9);
                    fixed("like");
                    t.like = whole(0, 9);
                    hasTown = true;
                }
                case "house" -> {
                    room(t.names, 7);
                    String name = newName();
                    fixed("rooms");
                    int rooms = whole(1, 9);
                    fixed("rent");
                    int rent = whole(1, 99);
                    fixed("bill");
                    int bill = whole(0, 999);
                    fixed("smells");
                    t.smells.add(word());
                    t.names.add(name);
                    t.houses.add(new int[] {rooms, rent, bill});
                }
                case "wrong" -> {
                    int h = house();
                    again(t.wrong.containsKey(h));
                    fixed("of");
                    int g = house();
                    again(g == h || t.wrong.containsValue(g));
                    t.wrong.put(h, g);
                }
                case "open" -> {
                    int h = house();
                    again(t.hours.containsKey(h));
                    fixed("from");
                    int from = whole(0, 23);
                    fixed("to");
                    t.hours.put(h, new int[] {from, whole(from, 23)});
                }
                case "street" -> {
                    room(t.streets, 10);
                    int h = house();
                    int g = house();
                    again(g == h || Model.street(t, h, g) >= 0);
                    fixed("minutes");
                    t.streets.add(new Street(h, g, whole(1, 99)));
                }
                case "person" -> {
                    room(t.people, 4);
                    String name = newName();
                    fixed("home");
                    int home = house();
                    fixed("at");
                    t.people.add(new int[] {home, house()});
                    t.peopleNames.add(name);
                }
                case "sign" -> {
                    room(t.signs, 8);
                    int h = house();
                    t.signs.add(new Sign(h, word()));
                }
                default -> {
                    room(t.noises, 4);
                    int h = house();
                    t.noises.add(new Noise(h, whole(1, 9)));
                }
            }
        }
    }

    private static int street(Told t, int h, int g) {
        for (Street s : t.streets) {
            if (s.one() == h && s.other() == g || s.one() == g && s.other() == h) {
                return s.minutes();
            }
        }
        return -2;
    }

    // ---- answers and refusals

    private long no(int why, long answer) {
        trouble = why;
        return answer;
    }

    private long no(int why) {
        return no(why, -1);
    }

    private int n() {
        return town.names.size();
    }

    private boolean isHouse(int h) {
        return h >= 0 && h < n();
    }

    private boolean isPerson(int p) {
        return p >= 0 && p < town.people.size();
    }

    private static boolean within(int x, int least, int most) {
        return x >= least && x <= most;
    }

    /** A call by its name; led answers Integer.MIN_VALUE where it throws. */
    long call(String name, int... a) {
        switch (name) {
            case "feed": return feed(a);
            case "fault": return fault;
            case "where": return trouble == 4 ? place : -1;
            case "led": return led(a[0]);
            case "size": return size(a[0]);
            case "trouble": return trouble;
            default:
                trouble = 0;
                return refusable(name, a);
        }
    }

    private long feed(int[] a) {
        if (tape.length() + 20 > 1100) {
            return -1;
        }
        StringBuilder s = new StringBuilder(tape);
        for (int v : a) {
            s.append((char) (v >>> 24)).append((char) (v >>> 16 & 255)).append((char) (v >>> 8 & 255))
                    .append((char) (v & 255));
        }
        tape = s.toString();
        return tape.length();
    }

    private long led(int i) {
        List<Integer> home = new ArrayList<>();
        for (int p = 0; p < town.people.size(); p++) {
            if (now.at[p] == town.people.get(p)[0]) {
                home.add(p);
            }
        }
        return i >= 0 && i < home.size() ? home.get(i) : Integer.MIN_VALUE;
    }

    private long size(int what) {
        int shut = 0;
        for (boolean s : now.shut) {
            shut += s ? 1 : 0;
        }
        int[] all = {town.door, town.like, n(), town.wrong.size(), town.hours.size(), town.streets.size(),
            town.people.size(), town.signs.size(), town.noises.size(), shut, acts.size(), marks.size(),
            tape.length()};
        return what >= 0 && what < all.length ? all[what] : -1;
    }

    private long refusable(String name, int[] a) {
        switch (name) {
            case "town": return tellTown(a[0]);
            case "house": return house(a[0], a[1]);
            case "open":
                if (!isHouse(a[0])) {
                    return no(1);
                }
                return within(a[1], 0, 1439) ? isOpen(now, a[0], a[1]) ? 1 : 0 : no(2);
            case "street":
                return isHouse(a[0]) && isHouse(a[1]) && a[0] != a[1] ? street(town, a[0], a[1]) : no(1);
            case "person":
                if (!isPerson(a[0]) || !within(a[1], 0, 2)) {
                    return no(1);
                }
                return new int[] {town.people.get(a[0])[0], now.at[a[0]], now.minutes[a[0]]}[a[1]];
            case "candle": return isHouse(a[0]) ? candle(a[0]) : no(1);
            case "candleAt":
                return !isHouse(a[0]) ? no(1) : within(a[1], 0, 9) ? candleAt(a[0], a[1]) : no(2);
            case "mutual": return n() == 0 ? no(1) : mutual(now.of);
            case "judge": return n() == 0 ? no(1) : judge();
            case "way": case "wayAt": case "saves": case "farthest": return ways(name, a);
            case "homeIn":
                return isPerson(a[0])
                        ? way(now.at[a[0]], town.people.get(a[0])[0], now.minutes[a[0]] % 1440, true).get(0) : no(1);
            case "fits": case "could": case "surely": case "firstOf": case "ask": case "askLeaves":
                return fits(name, a);
            case "owes": case "net": return heat(name, a);
            case "debtor": return n() == 0 ? no(1) : debtor();
            case "paired": case "fewest": case "exchangeAt": return best(name, a);
            case "stands": return n() == 0 ? no(1) : within(a[0], 0, 999) ? stands(a[0]) : no(2);
            case "gain": case "rests": case "rest": return rents(name, a);
            case "builders": case "builtOf": return builders(name, a);
            default: return act(name, a);
        }
    }

    private long tellTown(int n) {
        if (n < 0 || n > tape.length()) {
            return no(2);
        }
        String text = tape.substring(0, n);
        tape = "";
        try {
            town = new Parse(text).all();
        } catch (Fault f) {
            fault = f.number;
            place = f.place;
            return no(4);
        }
        fault = 0;
        acts.clear();
        marks.clear();
        now = new State();
        now.of = new int[n()];
        for (int h = 0; h < n(); h++) {
            now.of[h] = town.wrong.getOrDefault(h, -2);
        }
        now.shut = new boolean[n()];
        now.at = town.people.stream().mapToInt(p -> p[1]).toArray();
        now.minutes = new int[town.people.size()];
        return n();
    }

    // ---- now

    private long house(int h, int what) {
        if (!isHouse(h) || !within(what, 0, 5)) {
            return no(1);
        }
        if (what < 3) {
            return town.houses.get(h)[what];
        }
        return what == 3 ? now.of[h] : what == 4 ? whose(h) : now.shut[h] ? 1 : 0;
    }

    private int whose(int h) {
        for (int g = 0; g < n(); g++) {
            if (now.of[g] == h) {
                return g;
            }
        }
        return -2;
    }

    private boolean isOpen(State s, int h, int minute) {
        int hour = minute % 1440 / 60;
        int[] hours = town.hours.getOrDefault(h, new int[] {0, 23});
        return s.of[h] >= 0 && !s.shut[h] && hour >= hours[0] && hour <= hours[1];
    }

    private int candleAt(int h, int i) {
        return i == 0 ? h : now.of[h] < 0 ? -2 : candleAt(now.of[h], i - 1);
    }

    private int candle(int h) {
        for (int i = 1; i < 20; i++) {
            if (candleAt(h, i) == h) {
                return i;
            }
        }
        return -2;
    }

    private static int mutual(int[] of) {
        int bits = 0;
        for (int h = 0; h < of.length; h++) {
            for (int g = 0; g < of.length; g++) {
                bits |= of[h] == g && of[g] == h ? 1 << h : 0;
            }
        }
        return bits;
    }

    private int judge() {
        for (int i = 0; i < town.signs.size(); i++) {
            Sign s = town.signs.get(i);
            int of = now.of[s.house()];
            if (of < 0 || !town.smells.get(of).equals(s.smell())) {
                return i;
            }
        }
        return -2;
    }

    // ---- ways

    /** Minutes, then the houses; -2 alone without a way. */
    private List<Integer> way(int h, int g, int minute, boolean doors) {
        List<List<Integer>> rows = new ArrayList<>();
        List<Integer> row = new ArrayList<>(List.of(h));
        rowsTo(row, g, rows);
        List<Integer> best = null;
        for (List<Integer> r : rows) {
            int time = timeOf(r, minute, doors);
            if (time >= 0) {
                List<Integer> told = new ArrayList<>(List.of(time));
                told.addAll(r);
                if (best == null || compare(told, best) < 0) {
                    best = told;
                }
            }
        }
        return best == null ? List.of(-2) : best;
    }

    private static int compare(List<Integer> a, List<Integer> b) {
        for (int i = 0; i < Math.min(a.size(), b.size()); i++) {
            if (!a.get(i).equals(b.get(i))) {
                return a.get(i) - b.get(i);
            }
        }
        return a.size() - b.size();
    }

    private void rowsTo(List<Integer> row, int g, List<List<Integer>> rows) {
        if (row.get(row.size() - 1) == g) {
            rows.add(new ArrayList<>(row));
            return;
        }
        for (int next = n() - 1; next >= 0; next--) {
            if (!row.contains(next)) {
                row.add(next);
                rowsTo(row, g, rows);
                row.remove(row.size() - 1);
            }
        }
    }

    private int timeOf(List<Integer> row, int minute, boolean doors) {
        int t = minute;
        for (int i = 1; i < row.size(); i++) {
            int from = row.get(i - 1);
            int street = street(town, from, row.get(i));
            int then = street > 0 ? t + street : Integer.MAX_VALUE;
            for (int wait = 0; doors && now.of[from] == row.get(i) && wait < 1440; wait++) {
                if (isOpen(now, from, t + wait)) {
                    then = Math.min(then, t + wait + town.door);
                    break;
                }
            }
            if (then == Integer.MAX_VALUE) {
                return -2;
            }
            t = then;
        }
        return t - minute;
    }

    private long ways(String name, int[] a) {
        boolean far = name.equals("farthest");
        if (!isHouse(a[0]) || !far && !isHouse(a[1])) {
            return no(1);
        }
        int minute = far ? a[1] : a[2];
        if (!within(minute, 0, 1439)) {
            return no(2);
        }
        if (far) {
            int most = -1;
            int found = -1;
            for (int g = 0; g < n(); g++) {
                int time = way(a[0], g, minute, true).get(0);
                if (time > most) {
                    most = time;
                    found = g;
                }
            }
            return found;
        }
        List<Integer> way = way(a[0], a[1], minute, true);
        if (name.equals("way")) {
            return way.get(0);
        }
        if (name.equals("wayAt")) {
            return a[3] >= 0 && a[3] < way.size() - 1 ? way.get(a[3] + 1) : no(1);
        }
        int streets = way(a[0], a[1], minute, false).get(0);
        return streets < 0 ? -2 : streets - way.get(0);
    }

    // ---- whose room it is

    private List<int[]> rows() {
        List<int[]> rows = new ArrayList<>();
        rows(now.of.clone(), 0, rows);
        return rows;
    }

    private void rows(int[] row, int h, List<int[]> rows) {
        if (h == n()) {
            if (Arrays.stream(row).distinct().count() == n()) {
                rows.add(row.clone());
            }
            return;
        }
        if (now.of[h] >= 0) {
            rows(row, h + 1, rows);
            return;
        }
        for (int g = 0; g < n(); g++) {
            int of = g;
            int house = h;
            boolean taken = Arrays.stream(row).limit(h).anyMatch(x -> x == of);
            boolean smells = town.signs.stream()
                    .allMatch(s -> s.house() != house || s.smell().equals(town.smells.get(of)));
            boolean loud = town.noises.stream()
                    .allMatch(x -> x.house() != house || town.houses.get(of)[0] >= x.rooms());
            if (g != h && !taken && smells && loud) {
                row[h] = g;
                rows(row, h + 1, rows);
                row[h] = -2;
            }
        }
    }

    private long fits(String name, int[] a) {
        if (n() == 0 || a.length == 1 && !isHouse(a[0])) {
            return no(1);
        }
        List<int[]> rows = rows();
        if (name.equals("fits")) {
            return rows.size();
        }
        if (a.length == 1) {
            int bits = 0;
            for (int[] row : rows) {
                bits |= 1 << row[a[0]];
            }
            if (name.equals("could")) {
                return bits;
            }
            if (rows.isEmpty() || name.equals("surely") && Integer.bitCount(bits) != 1) {
                return -2;
            }
            return rows.get(0)[a[0]];
        }
        int asked = -2;
        int fewest = Integer.MAX_VALUE;
        for (int h = 0; h < n() && !rows.isEmpty(); h++) {
            if (now.of[h] < 0) {
                Map<Integer, Integer> left = new HashMap<>();
                for (int[] row : rows) {
                    left.merge(row[h], 1, Integer::sum);
                }
                int most = left.values().stream().max(Integer::compare).get();
                if (most < fewest) {
                    fewest = most;
                    asked = h;
                }
            }
        }
        return name.equals("ask") || asked < 0 ? asked : fewest;
    }

    // ---- heat

    private long[] share(int h) {
        return h < 0 || now.of[h] < 0 ? new long[] {0, 1}
                : new long[] {town.houses.get(h)[2], town.houses.get(h)[0] + 1};
    }

    private long heat(String name, int[] a) {
        boolean net = name.equals("net");
        if (!isHouse(a[0])) {
            return no(1, net ? Long.MIN_VALUE : -1);
        }
        long[] owes = share(whose(a[0]));
        long[] has = share(a[0]);
        long upper = net ? has[0] * owes[1] - owes[0] * has[1] : owes[0];
        long lower = net ? has[1] * owes[1] : owes[1];
        for (long d = lower; d > 1; d--) {
            if (upper % d == 0 && lower % d == 0) {
                upper /= d;
                lower /= d;
            }
        }
        return a[1] != 0 ? lower : upper;
    }

    private int debtor() {
        int most = -2;
        double max = 0;
        for (int h = 0; h < n(); h++) {
            long[] owes = share(whose(h));
            double value = (double) owes[0] / owes[1];
            if (value > max + 1e-9) {
                max = value;
                most = h;
            }
        }
        return most;
    }

    // ---- exchanges, stands

    private static boolean swap(int[] of, int h, int g) {
        if (h == g || of[h] < 0 || of[g] < 0 || of[h] == g || of[g] == h) {
            return false;
        }
        int x = of[h];
        of[h] = of[g];
        of[g] = x;
        return true;
    }

    private void tryRows(int[] of, List<Integer> row, List<List<Integer>> told) {
        List<Integer> key = new ArrayList<>(List.of(-Integer.bitCount(mutual(of)), row.size()));
        key.addAll(row);
        told.add(key);
        for (int h = 0; h < n() && row.size() < 3; h++) {
            for (int g = h + 1; g < n(); g++) {
                int[] then = of.clone();
                if (swap(then, h, g)) {
                    row.add(10 * h + g);
                    tryRows(then, row, told);
                    row.remove(row.size() - 1);
                }
            }
        }
    }

    private long best(String name, int[] a) {
        if (n() == 0) {
            return no(1);
        }
        List<List<Integer>> told = new ArrayList<>();
        tryRows(now.of, new ArrayList<>(), told);
        List<Integer> best = told.stream().min(Model::compare).get();
        if (name.equals("exchangeAt")) {
            return a[0] >= 0 && a[0] < best.size() - 2 ? best.get(a[0] + 2) : no(1);
        }
        return name.equals("paired") ? -best.get(0) : best.get(1);
    }

    private int stands(int minutes) {
        int best = -1;
        for (int bits = (1 << n()) - 1; bits > 0; bits--) {
            boolean all = true;
            for (int g = 0; g < n(); g++) {
                boolean reached = false;
                for (int h = 0; h < n(); h++) {
                    int time = (bits >> h & 1) == 0 ? -2 : way(h, g, 0, false).get(0);
                    reached |= time >= 0 && time <= minutes;
                }
                all &= reached;
            }
            if (all && (best < 0 || Integer.bitCount(bits) <= Integer.bitCount(best))) {
                best = bits;
            }
        }
        return best;
    }

    // ---- rents

    private int[] gains(int h, int tens, int g, int others) {
        int bits = mutual(now.of);
        int one = town.houses.get(h)[0] + ((bits >> h & 1) == 1 ? 2 : 0) - tens;
        int other = town.houses.get(g)[0] + ((bits >> g & 1) == 1 ? 2 : 0) - others;
        int tenants = town.houses.get(h)[0] + town.houses.get(g)[0];
        if (one == other || Math.abs(one - other) <= town.like) {
            return new int[] {tens * (tenants / 2), others * (tenants / 2)};
        }
        return one > other ? new int[] {tens * tenants, 0} : new int[] {0, others * tenants};
    }

    private boolean isRest(int h, int tens, int g, int others) {
        int[] has = gains(h, tens, g, others);
        for (int alone = 0; alone < 10; alone++) {
            if (gains(h, alone, g, others)[0] > has[0] || gains(h, tens, g, alone)[1] > has[1]) {
                return false;
            }
        }
        return true;
    }

    private long rents(String name, int[] a) {
        int g = name.equals("gain") ? a[2] : a[1];
        if (!isHouse(a[0]) || !isHouse(g) || a[0] == g) {
            return no(1);
        }
        if (name.equals("gain")) {
            return within(a[1], 0, 9) && within(a[3], 0, 9) ? gains(a[0], a[1], g, a[3])[a[4]] : no(2);
        }
        List<Integer> rests = new ArrayList<>();
        for (int pair = 0; pair < 100; pair++) {
            if (isRest(a[0], pair / 10, g, pair % 10)) {
                rests.add(pair);
            }
        }
        return name.equals("rests") ? rests.size() : rests.isEmpty() ? -2 : rests.get(0);
    }

    // ---- builders

    private long builders(String name, int[] a) {
        boolean of = name.equals("builtOf");
        if (n() == 0 || of && !isHouse(a[0])) {
            return no(1);
        }
        int times = a[a.length - 1];
        long seed = a[a.length - 2];
        if (times < 0 || times > 60 || seed < 0 || seed > 65536) {
            return no(2);
        }
        int[] then = now.of.clone();
        for (int i = 0; i < times; i++) {
            long first = (75 * seed + 74) % 65537;
            long second = (75 * first + 74) % 65537;
            swap(then, (int) (first % n()), (int) (second % n()));
            seed = second;
        }
        return of ? then[a[0]] : Integer.bitCount(mutual(then));
    }

    // ---- acts

    private void keep(State before) {
        acts.addLast(before);
        if (acts.size() > 16) {
            acts.removeFirst();
        }
    }

    private long act(String name, int[] a) {
        State before = now.copy();
        switch (name) {
            case "exchange":
                if (!isHouse(a[0]) || !isHouse(a[1]) || a[0] == a[1]) {
                    return no(1, 0);
                }
                if (!swap(now.of, a[0], a[1])) {
                    return no(5, 0);
                }
                keep(before);
                return 1;
            case "shut":
                if (!isHouse(a[0])) {
                    return no(1, 0);
                }
                if (now.shut[a[0]] == (a[1] != 0)) {
                    return no(5, 0);
                }
                now.shut[a[0]] = a[1] != 0;
                keep(before);
                return 1;
            case "go":
                if (!isPerson(a[0]) || !isHouse(a[1])) {
                    return no(1);
                }
                return go(before, a[0], a[1]);
            case "waits":
                if (!isPerson(a[0])) {
                    return no(1);
                }
                if (!within(a[1], 1, 999)) {
                    return no(2);
                }
                now.minutes[a[0]] += a[1];
                keep(before);
                return now.minutes[a[0]];
            case "undo":
                if (acts.isEmpty()) {
                    return no(6, 0);
                }
                now = acts.removeLast();
                return 1;
            case "mark":
                if (n() == 0) {
                    return no(1);
                }
                if (marks.size() == 3) {
                    return no(3);
                }
                marks.add(before);
                return marks.size() - 1;
            default:
                if (a[0] < 0 || a[0] >= marks.size()) {
                    return no(1, 0);
                }
                now = marks.get(a[0]).copy();
                acts.clear();
                return 1;
        }
    }

    private long go(State before, int p, int h) {
        int from = now.at[p];
        List<Integer> minutes = new ArrayList<>();
        if (from != h && street(town, from, h) > 0) {
            minutes.add(street(town, from, h));
        }
        if (from != h && now.of[from] == h && isOpen(now, from, now.minutes[p])) {
            minutes.add(town.door);
        }
        if (minutes.isEmpty()) {
            return no(5);
        }
        now.at[p] = h;
        now.minutes[p] += minutes.stream().min(Integer::compare).get();
        keep(before);
        return now.minutes[p];
    }
}
