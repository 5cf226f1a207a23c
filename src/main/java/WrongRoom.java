import java.util.NoSuchElementException;

/** A town whose houses each have a wrong room; ../shared/DOC.md numbers what it promises. */
public final class WrongRoom {
    public static final int NONE = -1;

    private static final int NO = -2;
    private static final int TAPE_ROOM = 1100;
    private static final int NUMBER_BYTES = 4;
    private static final int FED_BYTES = 20;
    private static final int HOUSE_ROOM = 7;
    private static final int STREET_ROOM = 10;
    private static final int PEOPLE_ROOM = 4;
    private static final int SIGN_ROOM = 8;
    private static final int NOISE_ROOM = 4;
    private static final int DAY = 1440;
    private static final int HOUR = 60;
    private static final int CANDLE_DOORS = 9;
    private static final int MINUTES_TOP = 999;
    private static final int TENS = 10;
    private static final int SEEDS = 65537;
    private static final int DRAWS_TOP = 60;

    private static final int NONE_SUCH = 1;
    private static final int NUMBER = 2;
    private static final int NO_ROOM = 3;
    private static final int FAULTY = 4;
    private static final int NOT_SO = 5;
    private static final int NOTHING = 6;

    private final Reader reader = new Reader();
    private Town told = new Town();
    private final Now now = new Now();
    private final Now trial = new Now();
    private final Past past = new Past();
    private final Ways ways = new Ways();
    private final Fitting fitting = new Fitting();
    private final Swaps swaps = new Swaps();
    private final Rents rents = new Rents();
    private int troubleNumber = 0;

    public WrongRoom() {
    }

    // ---- the town

    public int feed(int a, int b, int c, int d, int e) {
        if (reader.tapeSize + FED_BYTES > TAPE_ROOM) {
            return NONE;
        }
        reader.putNumber(a);
        reader.putNumber(b);
        reader.putNumber(c);
        reader.putNumber(d);
        reader.putNumber(e);
        return reader.tapeSize;
    }

    public int town(int n) {
        if (n < 0 || n > reader.tapeSize) {
            return refuse(NUMBER);
        }
        if (!reader.readTown(n)) {
            return refuse(FAULTY);
        }
        told = reader.changeTown(told);
        now.begin(told);
        past.forget();
        fitting.forget();
        return answer(told.houses.count);
    }

    public int fault() {
        return reader.faultNumber;
    }

    public int where() {
        return troubleNumber == FAULTY ? reader.faultPlace : NONE;
    }

    // ---- now

    public int house(int h, int what) {
        if (!isHouse(h)) {
            return refuse(NONE_SUCH);
        }
        switch (what) {
            case 0: return answer(told.houses.rooms[h]);
            case 1: return answer(told.houses.rents[h]);
            case 2: return answer(told.houses.bills[h]);
            case 3: return answer(now.roomOf(h));
            case 4: return answer(now.whoseRoomIsOf(h));
            case 5: return answer(now.isShut(h) ? 1 : 0);
            default: return refuse(NONE_SUCH);
        }
    }

    public int open(int h, int minute) {
        if (!isHouse(h)) {
            return refuse(NONE_SUCH);
        }
        if (!isMinute(minute)) {
            return refuse(NUMBER);
        }
        return answer(isDoorOpen(h, minute) ? 1 : 0);
    }

    public int street(int h, int g) {
        if (!areUnlikeHouses(h, g)) {
            return refuse(NONE_SUCH);
        }
        int minutes = told.streets.between(h, g);
        return answer(minutes > 0 ? minutes : NO);
    }

    public int person(int p, int what) {
        if (!isPerson(p)) {
            return refuse(NONE_SUCH);
        }
        switch (what) {
            case 0: return answer(told.homes[p]);
            case 1: return answer(now.placeOf(p));
            case 2: return answer(now.minutesOf(p));
            default: return refuse(NONE_SUCH);
        }
    }

    public int candle(int h) {
        if (!isHouse(h)) {
            return refuse(NONE_SUCH);
        }
        for (int doors = 1; doors <= HOUSE_ROOM; doors++) {
            if (now.behindDoors(h, doors) == h) {
                return answer(doors);
            }
        }
        return answer(NO);
    }

    public int candleAt(int h, int i) {
        if (!isHouse(h)) {
            return refuse(NONE_SUCH);
        }
        if (i < 0 || i > CANDLE_DOORS) {
            return refuse(NUMBER);
        }
        return answer(now.behindDoors(h, i));
    }

    public int mutual() {
        return noTown() ? refuse(NONE_SUCH) : answer(now.mutualBits());
    }

    public int judge() {
        if (noTown()) {
            return refuse(NONE_SUCH);
        }
        Clues clues = told.clues;
        for (int s = 0; s < clues.signs; s++) {
            int of = now.roomOf(clues.signHouses[s]);
            if (of == NO || told.houses.smells[of] != clues.signSmells[s]) {
                return answer(s);
            }
        }
        return answer(NO);
    }

    // ---- ways

    public int way(int h, int g, int minute) {
        if (!isHouse(h) || !isHouse(g)) {
            return refuse(NONE_SUCH);
        }
        if (!isMinute(minute)) {
            return refuse(NUMBER);
        }
        ways.walk(told, now, h, g, minute);
        return answer(ways.soonest(g));
    }

    public int wayAt(int h, int g, int minute, int i) {
        if (!isHouse(h) || !isHouse(g)) {
            return refuse(NONE_SUCH);
        }
        if (!isMinute(minute)) {
            return refuse(NUMBER);
        }
        ways.walk(told, now, h, g, minute);
        if (i < 0 || i >= ways.rowLength()) {
            return refuse(NONE_SUCH);
        }
        return answer(ways.rowAt(i));
    }

    public int saves(int h, int g, int minute) {
        if (!isHouse(h) || !isHouse(g)) {
            return refuse(NONE_SUCH);
        }
        if (!isMinute(minute)) {
            return refuse(NUMBER);
        }
        int byStreets = told.streets.apart(h, g);
        if (byStreets == NO) {
            return answer(NO);
        }
        ways.walk(told, now, h, g, minute);
        return answer(byStreets - ways.soonest(g));
    }

    public int farthest(int h, int minute) {
        if (!isHouse(h)) {
            return refuse(NONE_SUCH);
        }
        if (!isMinute(minute)) {
            return refuse(NUMBER);
        }
        ways.walk(told, now, h, NONE, minute);
        int most = h;
        for (int g = 0; g < told.houses.count; g++) {
            if (ways.soonest(g) > ways.soonest(most)) {
                most = g;
            }
        }
        return answer(most);
    }

    public int homeIn(int p) {
        if (!isPerson(p)) {
            return refuse(NONE_SUCH);
        }
        int home = told.homes[p];
        ways.walk(told, now, now.placeOf(p), home, now.dayMinuteOf(p));
        return answer(ways.soonest(home));
    }

    // ---- whose room it is

    public int fits() {
        return noTown() ? refuse(NONE_SUCH) : answer(fitted().rowCount());
    }

    public int could(int h) {
        if (!isHouse(h)) {
            return refuse(NONE_SUCH);
        }
        int known = now.roomOf(h);
        if (known == NO) {
            return answer(fitted().possibleBits(h));
        }
        return answer(fitted().rowCount() > 0 ? 1 << known : 0);
    }

    public int surely(int h) {
        if (!isHouse(h)) {
            return refuse(NONE_SUCH);
        }
        int known = now.roomOf(h);
        if (known == NO) {
            return answer(fitted().sameInAll(h));
        }
        return answer(fitted().rowCount() > 0 ? known : NO);
    }

    public int firstOf(int h) {
        if (!isHouse(h)) {
            return refuse(NONE_SUCH);
        }
        if (fitted().rowCount() == 0) {
            return answer(NO);
        }
        int known = now.roomOf(h);
        return answer(known == NO ? fitted().inFirstRow(h) : known);
    }

    public int ask() {
        return noTown() ? refuse(NONE_SUCH) : answer(fitted().houseToAsk());
    }

    public int askLeaves() {
        if (noTown()) {
            return refuse(NONE_SUCH);
        }
        int asked = fitted().houseToAsk();
        return answer(asked == NO ? NO : fitted().mostLeftBy(asked));
    }

    private Fitting fitted() {
        fitting.countRows(told);
        return fitting;
    }

    // ---- heat

    public long owes(int h, boolean lower) {
        if (!isHouse(h)) {
            return refuse(NONE_SUCH);
        }
        troubleNumber = 0;
        return partOf(owedUpper(h), owedLower(h), lower);
    }

    public long net(int h, boolean lower) {
        if (!isHouse(h)) {
            refuse(NONE_SUCH);
            return Long.MIN_VALUE;
        }
        troubleNumber = 0;
        boolean known = now.roomOf(h) != NO;
        long upper = known ? told.houses.bills[h] : 0;
        long under = known ? told.houses.heated(h) : 1;
        long netUpper = upper * owedLower(h) - owedUpper(h) * under;
        return partOf(netUpper, under * owedLower(h), lower);
    }

    public int debtor() {
        if (noTown()) {
            return refuse(NONE_SUCH);
        }
        int most = NO;
        long upper = 0;
        long under = 1;
        for (int h = 0; h < told.houses.count; h++) {
            if (owedUpper(h) * under > upper * owedLower(h)) {
                most = h;
                upper = owedUpper(h);
                under = owedLower(h);
            }
        }
        return answer(most);
    }

    private long owedUpper(int h) {
        int whose = now.whoseRoomIsOf(h);
        return whose == NO ? 0 : told.houses.bills[whose];
    }

    private long owedLower(int h) {
        int whose = now.whoseRoomIsOf(h);
        return whose == NO ? 1 : told.houses.heated(whose);
    }

    private static long partOf(long upper, long under, boolean lower) {
        long common = commonDivisor(Math.abs(upper), under);
        if (common == 0) {
            return lower ? 1 : 0;
        }
        return (lower ? under : upper) / common;
    }

    private static long commonDivisor(long a, long b) {
        long big = a;
        long small = b;
        // No pair of longs needs a hundred steps.
        for (int steps = 0; small != 0 && steps < 100; steps++) {
            long left = big % small;
            big = small;
            small = left;
        }
        return big;
    }

    // ---- exchanges, stands

    public int paired() {
        if (noTown()) {
            return refuse(NONE_SUCH);
        }
        swaps.findBest(now);
        return answer(swaps.bestCount());
    }

    public int fewest() {
        if (noTown()) {
            return refuse(NONE_SUCH);
        }
        swaps.findBest(now);
        return answer(swaps.bestLength());
    }

    public int exchangeAt(int i) {
        if (noTown()) {
            return refuse(NONE_SUCH);
        }
        swaps.findBest(now);
        if (i < 0 || i >= swaps.bestLength()) {
            return refuse(NONE_SUCH);
        }
        return answer(swaps.bestAt(i));
    }

    public int stands(int minutes) {
        if (noTown()) {
            return refuse(NONE_SUCH);
        }
        if (minutes < 0 || minutes > MINUTES_TOP) {
            return refuse(NUMBER);
        }
        return answer(told.streets.fewestStands(told.houses.count, minutes));
    }

    // ---- rents

    public int gain(int h, int tens, int g, int others, boolean other) {
        if (!areUnlikeHouses(h, g)) {
            return refuse(NONE_SUCH);
        }
        if (!isTens(tens) || !isTens(others)) {
            return refuse(NUMBER);
        }
        rents.between(told, now, h, g);
        return answer(other ? rents.othersGain(tens, others) : rents.onesGain(tens, others));
    }

    public int rests(int h, int g) {
        if (!areUnlikeHouses(h, g)) {
            return refuse(NONE_SUCH);
        }
        rents.between(told, now, h, g);
        rents.findRests();
        return answer(rents.restCount());
    }

    public int rest(int h, int g) {
        if (!areUnlikeHouses(h, g)) {
            return refuse(NONE_SUCH);
        }
        rents.between(told, now, h, g);
        rents.findRests();
        return answer(rents.firstRest());
    }

    // ---- builders

    public int builders(int seed, int n) {
        if (noTown()) {
            return refuse(NONE_SUCH);
        }
        if (!areDraws(seed, n)) {
            return refuse(NUMBER);
        }
        build(seed, n);
        return answer(Integer.bitCount(trial.mutualBits()));
    }

    public int builtOf(int h, int seed, int n) {
        if (!isHouse(h)) {
            return refuse(NONE_SUCH);
        }
        if (!areDraws(seed, n)) {
            return refuse(NUMBER);
        }
        build(seed, n);
        return answer(trial.roomOf(h));
    }

    private void build(int seed, int n) {
        trial.copyFrom(now);
        int houses = told.houses.count;
        if (houses == 0) {
            return;
        }
        int drawn = seed;
        for (int i = 0; i < n; i++) {
            drawn = nextSeed(drawn);
            int one = drawn % houses;
            drawn = nextSeed(drawn);
            int other = drawn % houses;
            if (trial.canSwap(one, other)) {
                trial.swapRooms(one, other);
            }
        }
    }

    private static int nextSeed(int seed) {
        return (75 * seed + 74) % SEEDS;
    }

    // ---- acts

    public boolean exchange(int h, int g) {
        if (!areUnlikeHouses(h, g)) {
            return deny(NONE_SUCH);
        }
        if (!now.canSwap(h, g)) {
            return deny(NOT_SO);
        }
        past.keepAct(now);
        now.swapRooms(h, g);
        return grant();
    }

    public boolean shut(int h, boolean is) {
        if (!isHouse(h)) {
            return deny(NONE_SUCH);
        }
        if (now.isShut(h) == is) {
            return deny(NOT_SO);
        }
        past.keepAct(now);
        now.turnDoor(h);
        return grant();
    }

    public int go(int p, int h) {
        if (!isPerson(p) || !isHouse(h)) {
            return refuse(NONE_SUCH);
        }
        int from = now.placeOf(p);
        int minutes = from == h ? NO : minutesToGo(from, h, now.dayMinuteOf(p));
        if (minutes == NO) {
            return refuse(NOT_SO);
        }
        past.keepAct(now);
        now.movePerson(p, h, minutes);
        return answer(now.minutesOf(p));
    }

    private int minutesToGo(int from, int to, int minute) {
        int byStreet = told.streets.between(from, to);
        boolean byDoor = now.roomOf(from) == to && isDoorOpen(from, minute);
        if (byDoor && (byStreet == 0 || told.door < byStreet)) {
            return told.door;
        }
        return byStreet > 0 ? byStreet : NO;
    }

    public int waits(int p, int minutes) {
        if (!isPerson(p)) {
            return refuse(NONE_SUCH);
        }
        if (minutes < 1 || minutes > MINUTES_TOP) {
            return refuse(NUMBER);
        }
        past.keepAct(now);
        now.movePerson(p, now.placeOf(p), minutes);
        return answer(now.minutesOf(p));
    }

    public boolean undo() {
        if (past.actCount() == 0) {
            return deny(NOTHING);
        }
        past.takeBack(now);
        return grant();
    }

    public int mark() {
        if (noTown()) {
            return refuse(NONE_SUCH);
        }
        if (past.markCount() == Past.MARK_ROOM) {
            return refuse(NO_ROOM);
        }
        return answer(past.keepMark(now));
    }

    public boolean back(int mark) {
        if (mark < 0 || mark >= past.markCount()) {
            return deny(NONE_SUCH);
        }
        past.goBack(mark, now);
        return grant();
    }

    // ---- what is told

    public int led(int i) throws NoSuchElementException {
        int left = i;
        for (int p = 0; p < told.people; p++) {
            if (now.placeOf(p) == told.homes[p]) {
                if (left == 0) {
                    return p;
                }
                left--;
            }
        }
        throw new NoSuchElementException();
    }

    public int size(int what) {
        switch (what) {
            case 0: return told.door;
            case 1: return told.like;
            case 2: return told.houses.count;
            case 3: return now.knownCount();
            case 4: return told.houses.hoursTold();
            case 5: return told.streets.count;
            case 6: return told.people;
            case 7: return told.clues.signs;
            case 8: return told.clues.noises;
            case 9: return now.shutCount();
            case 10: return past.actCount();
            case 11: return past.markCount();
            case 12: return reader.tapeSize;
            default: return NONE;
        }
    }

    public int trouble() {
        return troubleNumber;
    }

    private int answer(int value) {
        troubleNumber = 0;
        return value;
    }

    private int refuse(int why) {
        troubleNumber = why;
        return NONE;
    }

    private boolean grant() {
        troubleNumber = 0;
        return true;
    }

    private boolean deny(int why) {
        troubleNumber = why;
        return false;
    }

    private boolean noTown() {
        return told.houses.count == 0;
    }

    private boolean isHouse(int h) {
        return h >= 0 && h < told.houses.count;
    }

    private boolean areUnlikeHouses(int h, int g) {
        return isHouse(h) && isHouse(g) && h != g;
    }

    private boolean isPerson(int p) {
        return p >= 0 && p < told.people;
    }

    private static boolean isMinute(int minute) {
        return minute >= 0 && minute < DAY;
    }

    private static boolean isTens(int tens) {
        return tens >= 0 && tens < TENS;
    }

    private static boolean areDraws(int seed, int n) {
        return seed >= 0 && seed < SEEDS && n >= 0 && n <= DRAWS_TOP;
    }

    private boolean isDoorOpen(int h, int minute) {
        return now.hasDoor(h) && told.houses.untilOpen(h, minute) == 0;
    }

    /** What a text told of its houses; rows are made once, since a run's rows are never given back. */
    private static final class Houses {
        int count = 0;
        final long[] names = new long[HOUSE_ROOM];
        final int[] rooms = new int[HOUSE_ROOM];
        final int[] rents = new int[HOUSE_ROOM];
        final int[] bills = new int[HOUSE_ROOM];
        final long[] smells = new long[HOUSE_ROOM];
        final int[] toldOf = new int[HOUSE_ROOM];
        final int[] fromHours = new int[HOUSE_ROOM];
        final int[] toHours = new int[HOUSE_ROOM];

        void clear() {
            count = 0;
            for (int h = 0; h < HOUSE_ROOM; h++) {
                toldOf[h] = NO;
                fromHours[h] = NO;
                toHours[h] = NO;
            }
        }

        int called(long name) {
            for (int h = 0; h < count; h++) {
                if (names[h] == name) {
                    return h;
                }
            }
            return NONE;
        }

        boolean isToldOf(int house) {
            for (int h = 0; h < count; h++) {
                if (toldOf[h] == house) {
                    return true;
                }
            }
            return false;
        }

        /** How many rooms the bill goes by: the wrong one is heated too. */
        int heated(int h) {
            return rooms[h] + 1;
        }

        int hoursTold() {
            int n = 0;
            for (int h = 0; h < count; h++) {
                if (fromHours[h] != NO) {
                    n++;
                }
            }
            return n;
        }

        int untilOpen(int h, int minute) {
            if (fromHours[h] == NO) {
                return 0;
            }
            int today = Math.floorMod(minute, DAY);
            int first = HOUR * fromHours[h];
            int last = HOUR * toHours[h] + HOUR - 1;
            if (today < first) {
                return first - today;
            }
            return today <= last ? 0 : DAY - today + first;
        }
    }

    /** Streets as told, and how far houses are apart by them alone. */
    private static final class Streets {
        int count = 0;
        private final int[] minutes = new int[HOUSE_ROOM * HOUSE_ROOM];
        private final int[] shortest = new int[HOUSE_ROOM * HOUSE_ROOM];
        private final int[] near = new int[HOUSE_ROOM];

        void clear() {
            count = 0;
            for (int i = 0; i < minutes.length; i++) {
                minutes[i] = 0;
            }
        }

        void addStreet(int h, int g, int time) {
            minutes[h * HOUSE_ROOM + g] = time;
            minutes[g * HOUSE_ROOM + h] = time;
            count++;
        }

        /** Minutes of the street, 0 without one (no street takes 0). */
        int between(int h, int g) {
            return minutes[h * HOUSE_ROOM + g];
        }

        int apart(int h, int g) {
            return shortest[h * HOUSE_ROOM + g];
        }

        /** Streets never change under a TOWN, so this is done once for it. */
        void measure() {
            for (int i = 0; i < minutes.length; i++) {
                shortest[i] = minutes[i] > 0 ? minutes[i] : NO;
            }
            for (int h = 0; h < HOUSE_ROOM; h++) {
                shortest[h * HOUSE_ROOM + h] = 0;
            }
            for (int through = 0; through < HOUSE_ROOM; through++) {
                for (int h = 0; h < HOUSE_ROOM; h++) {
                    shortenThrough(h, through);
                }
            }
        }

        private void shortenThrough(int h, int through) {
            int first = apart(h, through);
            if (first == NO) {
                return;
            }
            for (int g = 0; g < HOUSE_ROOM; g++) {
                int second = apart(through, g);
                int before = apart(h, g);
                if (second != NO && (before == NO || first + second < before)) {
                    shortest[h * HOUSE_ROOM + g] = first + second;
                }
            }
        }

        int fewestStands(int houses, int time) {
            findNear(houses, time);
            int all = (1 << houses) - 1;
            int best = all;
            for (int bits = 1; bits < all; bits++) {
                // Only fewer houses take the place of others, so of like ones the least bits stay.
                if (Integer.bitCount(bits) < Integer.bitCount(best) && reachedFrom(bits) == all) {
                    best = bits;
                }
            }
            return best;
        }

        private void findNear(int houses, int time) {
            for (int h = 0; h < houses; h++) {
                near[h] = 0;
                for (int g = 0; g < houses; g++) {
                    int far = apart(h, g);
                    if (far != NO && far <= time) {
                        near[h] |= 1 << g;
                    }
                }
            }
        }

        private int reachedFrom(int bits) {
            int reached = 0;
            for (int h = 0; h < HOUSE_ROOM; h++) {
                if ((bits >> h & 1) == 1) {
                    reached |= near[h];
                }
            }
            return reached;
        }
    }

    /** Signs and noises as told. */
    private static final class Clues {
        int signs = 0;
        final int[] signHouses = new int[SIGN_ROOM];
        final long[] signSmells = new long[SIGN_ROOM];
        int noises = 0;
        final int[] noiseHouses = new int[NOISE_ROOM];
        final int[] noiseRooms = new int[NOISE_ROOM];

        void clear() {
            signs = 0;
            noises = 0;
        }

        void addSign(int house, long smell) {
            if (signs < SIGN_ROOM) {
                signHouses[signs] = house;
                signSmells[signs] = smell;
                signs++;
            }
        }

        void addNoise(int house, int rooms) {
            if (noises < NOISE_ROOM) {
                noiseHouses[noises] = house;
                noiseRooms[noises] = rooms;
                noises++;
            }
        }

        /** Whether a house's wrong room may be of one with such a smell and so many rooms. */
        boolean allow(int house, long smell, int rooms) {
            for (int s = 0; s < signs; s++) {
                if (signHouses[s] == house && signSmells[s] != smell) {
                    return false;
                }
            }
            for (int n = 0; n < noises; n++) {
                if (noiseHouses[n] == house && noiseRooms[n] > rooms) {
                    return false;
                }
            }
            return true;
        }
    }

    /** All that a text told; without houses it is no TOWN. */
    private static final class Town {
        int door = 0;
        int like = 0;
        final Houses houses = new Houses();
        final Streets streets = new Streets();
        final Clues clues = new Clues();
        int people = 0;
        final long[] peopleNames = new long[PEOPLE_ROOM];
        final int[] homes = new int[PEOPLE_ROOM];
        final int[] places = new int[PEOPLE_ROOM];

        void clear() {
            door = 0;
            like = 0;
            people = 0;
            houses.clear();
            streets.clear();
            clues.clear();
        }

        void addPerson(long name, int home, int place) {
            if (people < PEOPLE_ROOM) {
                peopleNames[people] = name;
                homes[people] = home;
                places[people] = place;
                people++;
            }
        }

        boolean isNameTold(long name) {
            for (int p = 0; p < people; p++) {
                if (peopleNames[p] == name) {
                    return true;
                }
            }
            return houses.called(name) != NONE;
        }
    }

    /** Reads a TOWN from left to right, so that the FAULT it stops at is the first. */
    private static final class Reader {
        private static final int FORM = 1;
        private static final int UNTOLD = 2;
        private static final int AGAIN = 3;
        private static final int BOUNDS = 4;
        private static final int MANY = 5;
        private static final int LACKS = 6;

        private static final int END = 0;
        private static final int WORD = 1;
        private static final int WHOLE = 2;
        private static final int SEMICOLON = 3;
        private static final int BAD = 4;

        private static final int TOWN = 0;
        private static final int HOUSE = 1;
        private static final int WRONG = 2;
        private static final int OPEN = 3;
        private static final int STREET = 4;
        private static final int PERSON = 5;
        private static final int SIGN = 6;
        private static final int NOISE = 7;
        private static final int SORTS = 8;

        private static final int WORD_LETTERS = 8;
        private static final int WHOLE_DIGITS = 3;

        int faultNumber = 0;
        int faultPlace = NONE;
        int tapeSize = 0;
        private final char[] tape = new char[TAPE_ROOM];
        // A text with a FAULT must leave the TOWN as it was, so it is read into another one.
        private Town into = new Town();
        private final long[] sortCodes = new long[SORTS];
        private int length = 0;
        private int at = 0;
        private int kind = END;
        private int start = 0;
        private long word = 0;
        private int whole = 0;
        private int houseRead = NONE;

        Reader() {
            sortCodes[TOWN] = codeOf("town");
            sortCodes[HOUSE] = codeOf("house");
            sortCodes[WRONG] = codeOf("wrong");
            sortCodes[OPEN] = codeOf("open");
            sortCodes[STREET] = codeOf("street");
            sortCodes[PERSON] = codeOf("person");
            sortCodes[SIGN] = codeOf("sign");
            sortCodes[NOISE] = codeOf("noise");
        }

        void putNumber(int number) {
            if (tapeSize + NUMBER_BYTES > TAPE_ROOM) {
                return;
            }
            for (int i = NUMBER_BYTES - 1; i >= 0; i--) {
                tape[tapeSize] = (char) (number >> 8 * i & 255);
                tapeSize++;
            }
        }

        /** Gives the TOWN that was read for another one, into which the next may be read. */
        Town changeTown(Town other) {
            Town read = into;
            into = other;
            return read;
        }

        /** Whether the tape's first bytes are a TOWN; they are off the tape then, as all others are. */
        boolean readTown(int bytes) {
            length = Math.min(bytes, tapeSize);
            tapeSize = 0;
            faultNumber = 0;
            faultPlace = NONE;
            at = 0;
            kind = SEMICOLON;
            into.clear();
            for (int lines = 0; kind != END && lines <= length; lines++) {
                if (kind != SEMICOLON) {
                    return fail(FORM);
                }
                if (!readLine()) {
                    return false;
                }
                advance();
            }
            if (into.houses.count < 2) {
                return fail(LACKS);
            }
            into.streets.measure();
            return true;
        }

        private boolean readLine() {
            if (!anyWord()) {
                return false;
            }
            int sort = sortOfWord();
            if (sort == NONE) {
                return fail(FORM);
            }
            boolean townTold = into.door > 0;
            if (sort == TOWN && townTold) {
                return fail(AGAIN);
            }
            if (sort != TOWN && !townTold) {
                return fail(LACKS);
            }
            if (isFull(sort)) {
                return fail(MANY);
            }
            switch (sort) {
                case TOWN: return readTownLine();
                case HOUSE: return readHouseLine();
                case WRONG: return readWrongLine();
                case OPEN: return readOpenLine();
                case STREET: return readStreetLine();
                case PERSON: return readPersonLine();
                case SIGN: return readSignLine();
                default: return readNoiseLine();
            }
        }

        private boolean isFull(int sort) {
            switch (sort) {
                case HOUSE: return into.houses.count >= HOUSE_ROOM;
                case STREET: return into.streets.count >= STREET_ROOM;
                case PERSON: return into.people >= PEOPLE_ROOM;
                case SIGN: return into.clues.signs >= SIGN_ROOM;
                case NOISE: return into.clues.noises >= NOISE_ROOM;
                default: return false;
            }
        }

        private boolean readTownLine() {
            if (!thisWord("door") || !wholeWithin(1, 9)) {
                return false;
            }
            int door = whole;
            if (!thisWord("like") || !wholeWithin(0, 9)) {
                return false;
            }
            into.door = door;
            into.like = whole;
            return true;
        }

        private boolean readHouseLine() {
            if (!newName()) {
                return false;
            }
            Houses houses = into.houses;
            int h = houses.count;
            houses.names[h] = word;
            if (!thisWord("rooms") || !wholeWithin(1, 9)) {
                return false;
            }
            houses.rooms[h] = whole;
            if (!thisWord("rent") || !wholeWithin(1, 99)) {
                return false;
            }
            houses.rents[h] = whole;
            if (!thisWord("bill") || !wholeWithin(0, 999)) {
                return false;
            }
            houses.bills[h] = whole;
            if (!thisWord("smells") || !anyWord()) {
                return false;
            }
            houses.smells[h] = word;
            houses.count++;
            return true;
        }

        private boolean readWrongLine() {
            if (!toldHouse()) {
                return false;
            }
            int first = houseRead;
            if (into.houses.toldOf[first] != NO) {
                return fail(AGAIN);
            }
            if (!thisWord("of") || !toldHouse()) {
                return false;
            }
            if (houseRead == first || into.houses.isToldOf(houseRead)) {
                return fail(AGAIN);
            }
            into.houses.toldOf[first] = houseRead;
            return true;
        }

        private boolean readOpenLine() {
            if (!toldHouse()) {
                return false;
            }
            int h = houseRead;
            if (into.houses.fromHours[h] != NO) {
                return fail(AGAIN);
            }
            if (!thisWord("from") || !wholeWithin(0, 23)) {
                return false;
            }
            int from = whole;
            if (!thisWord("to") || !wholeWithin(from, 23)) {
                return false;
            }
            into.houses.fromHours[h] = from;
            into.houses.toHours[h] = whole;
            return true;
        }

        private boolean readStreetLine() {
            if (!toldHouse()) {
                return false;
            }
            int first = houseRead;
            if (!toldHouse()) {
                return false;
            }
            int second = houseRead;
            if (second == first || into.streets.between(first, second) > 0) {
                return fail(AGAIN);
            }
            if (!thisWord("minutes") || !wholeWithin(1, 99)) {
                return false;
            }
            into.streets.addStreet(first, second, whole);
            return true;
        }

        private boolean readPersonLine() {
            if (!newName()) {
                return false;
            }
            long name = word;
            if (!thisWord("home") || !toldHouse()) {
                return false;
            }
            int home = houseRead;
            if (!thisWord("at") || !toldHouse()) {
                return false;
            }
            into.addPerson(name, home, houseRead);
            return true;
        }

        private boolean readSignLine() {
            if (!toldHouse() || !anyWord()) {
                return false;
            }
            into.clues.addSign(houseRead, word);
            return true;
        }

        private boolean readNoiseLine() {
            if (!toldHouse() || !wholeWithin(1, 9)) {
                return false;
            }
            into.clues.addNoise(houseRead, whole);
            return true;
        }

        private boolean fail(int number) {
            faultNumber = number;
            faultPlace = start;
            return false;
        }

        private boolean anyWord() {
            advance();
            return kind == WORD || fail(FORM);
        }

        private boolean thisWord(String due) {
            advance();
            return kind == WORD && word == codeOf(due) || fail(FORM);
        }

        private boolean wholeWithin(int least, int most) {
            advance();
            if (kind != WHOLE) {
                return fail(FORM);
            }
            return whole >= least && whole <= most || fail(BOUNDS);
        }

        private boolean newName() {
            advance();
            if (kind != WORD || sortOfWord() != NONE) {
                return fail(FORM);
            }
            return !into.isNameTold(word) || fail(AGAIN);
        }

        private boolean toldHouse() {
            advance();
            if (kind != WORD || sortOfWord() != NONE) {
                return fail(FORM);
            }
            houseRead = into.houses.called(word);
            return houseRead != NONE || fail(UNTOLD);
        }

        private int sortOfWord() {
            for (int sort = 0; sort < SORTS; sort++) {
                if (sortCodes[sort] == word) {
                    return sort;
                }
            }
            return NONE;
        }

        private void advance() {
            while (at < length && tape[at] == ' ') {
                at++;
            }
            start = at;
            if (at >= length) {
                kind = END;
                return;
            }
            if (isLetter(tape[at])) {
                advanceWord();
            } else if (isDigit(tape[at])) {
                advanceWhole();
            } else {
                kind = tape[at] == ';' ? SEMICOLON : BAD;
                at++;
            }
        }

        private void advanceWord() {
            word = 0;
            while (at < length && isLetter(tape[at])) {
                word = withLetter(word, tape[at]);
                at++;
            }
            kind = at - start <= WORD_LETTERS ? WORD : BAD;
        }

        private void advanceWhole() {
            whole = 0;
            while (at < length && isDigit(tape[at])) {
                whole = 10 * whole + tape[at] - '0';
                at++;
            }
            kind = at - start <= WHOLE_DIGITS ? WHOLE : BAD;
        }

        private static boolean isLetter(char c) {
            return c >= 'a' && c <= 'z';
        }

        private static boolean isDigit(char c) {
            return c >= '0' && c <= '9';
        }

        // Eight letters of five bits fit a long, so that a WORD needs no text of its own.
        private static long withLetter(long code, char letter) {
            return 32 * code + (letter - 'a' + 1);
        }

        private static long codeOf(String letters) {
            long code = 0;
            for (int i = 0; i < letters.length(); i++) {
                code = withLetter(code, letters.charAt(i));
            }
            return code;
        }
    }

    /** What ACTS change, as one row of numbers, so that undoing and MARKS copy rows and nothing else. */
    private static final class Now {
        static final int LENGTH = 16;
        private static final int SHUT = 7;
        private static final int PLACES = 8;
        private static final int MINUTES = 12;

        private final int[] row = new int[LENGTH];

        // Without a TOWN no wrong room is known.
        Now() {
            for (int h = 0; h < HOUSE_ROOM; h++) {
                row[h] = NO;
            }
        }

        void begin(Town town) {
            for (int h = 0; h < HOUSE_ROOM; h++) {
                row[h] = town.houses.toldOf[h];
            }
            row[SHUT] = 0;
            for (int p = 0; p < PEOPLE_ROOM; p++) {
                row[PLACES + p] = p < town.people ? town.places[p] : 0;
                row[MINUTES + p] = 0;
            }
        }

        void copyFrom(Now other) {
            other.saveTo(row, 0);
        }

        void saveTo(int[] rows, int offset) {
            if (offset >= 0 && offset + LENGTH <= rows.length) {
                System.arraycopy(row, 0, rows, offset, LENGTH);
            }
        }

        void loadFrom(int[] rows, int offset) {
            if (offset >= 0 && offset + LENGTH <= rows.length) {
                System.arraycopy(rows, offset, row, 0, LENGTH);
            }
        }

        int roomOf(int h) {
            return row[h];
        }

        int whoseRoomIsOf(int house) {
            for (int h = 0; h < HOUSE_ROOM; h++) {
                if (row[h] == house) {
                    return h;
                }
            }
            return NO;
        }

        int knownCount() {
            int n = 0;
            for (int h = 0; h < HOUSE_ROOM; h++) {
                if (row[h] != NO) {
                    n++;
                }
            }
            return n;
        }

        int behindDoors(int h, int doors) {
            int house = h;
            for (int i = 0; i < doors && house != NO; i++) {
                house = row[house];
            }
            return house;
        }

        boolean isMutual(int h) {
            return row[h] != NO && row[row[h]] == h;
        }

        int mutualBits() {
            int bits = 0;
            for (int h = 0; h < HOUSE_ROOM; h++) {
                if (isMutual(h)) {
                    bits |= 1 << h;
                }
            }
            return bits;
        }

        boolean canSwap(int h, int g) {
            return h != g && row[h] != NO && row[g] != NO && row[h] != g && row[g] != h;
        }

        void swapRooms(int h, int g) {
            int of = row[h];
            row[h] = row[g];
            row[g] = of;
        }

        boolean isShut(int h) {
            return (row[SHUT] >> h & 1) == 1;
        }

        void turnDoor(int h) {
            row[SHUT] ^= 1 << h;
        }

        int shutCount() {
            return Integer.bitCount(row[SHUT]);
        }

        /** Whether there is a DOOR that hours alone could keep one from. */
        boolean hasDoor(int h) {
            return row[h] != NO && !isShut(h);
        }

        int placeOf(int p) {
            return row[PLACES + p];
        }

        int minutesOf(int p) {
            return row[MINUTES + p];
        }

        int dayMinuteOf(int p) {
            return Math.floorMod(minutesOf(p), DAY);
        }

        void movePerson(int p, int house, int minutes) {
            row[PLACES + p] = house;
            row[MINUTES + p] += minutes;
        }
    }

    /** The rows that undoing and MARKS go back to. */
    private static final class Past {
        static final int MARK_ROOM = 3;
        private static final int ACT_ROOM = 16;

        private final int[] acts = new int[ACT_ROOM * Now.LENGTH];
        private int nextAct = 0;
        private int actsKept = 0;
        private final int[] marks = new int[MARK_ROOM * Now.LENGTH];
        private int marksKept = 0;

        void forget() {
            actsKept = 0;
            marksKept = 0;
        }

        int actCount() {
            return actsKept;
        }

        int markCount() {
            return marksKept;
        }

        // The rows go round, so that the seventeenth ACT falls on the oldest.
        void keepAct(Now now) {
            now.saveTo(acts, nextAct * Now.LENGTH);
            nextAct = (nextAct + 1) % ACT_ROOM;
            if (actsKept < ACT_ROOM) {
                actsKept++;
            }
        }

        void takeBack(Now now) {
            if (actsKept == 0) {
                return;
            }
            nextAct = (nextAct + ACT_ROOM - 1) % ACT_ROOM;
            actsKept--;
            now.loadFrom(acts, nextAct * Now.LENGTH);
        }

        int keepMark(Now now) {
            now.saveTo(marks, marksKept * Now.LENGTH);
            marksKept++;
            return marksKept - 1;
        }

        void goBack(int mark, Now now) {
            now.loadFrom(marks, mark * Now.LENGTH);
            actsKept = 0;
        }
    }

    /** Tries the rows of houses one by one in their order, so that of like ones the first stays. */
    private static final class Ways {
        private final int[] times = new int[HOUSE_ROOM];
        private final int[] walked = new int[HOUSE_ROOM];
        private final int[] best = new int[HOUSE_ROOM];
        private int bestHouses = 0;
        private int been = 0;
        private int goal = NONE;
        private int begun = 0;

        /** From a house to a goal, or to all houses if the goal is NONE. */
        void walk(Town town, Now now, int from, int to, int minute) {
            goal = to;
            begun = minute;
            been = 0;
            bestHouses = 0;
            for (int h = 0; h < HOUSE_ROOM; h++) {
                times[h] = NO;
            }
            step(town, now, from, minute, 0);
        }

        int soonest(int h) {
            return times[h];
        }

        int rowLength() {
            return bestHouses;
        }

        int rowAt(int i) {
            return best[i];
        }

        private void step(Town town, Now now, int house, int minute, int depth) {
            if (depth >= HOUSE_ROOM || isTooLate(minute)) {
                return;
            }
            walked[depth] = house;
            arrive(house, minute - begun, depth + 1);
            if (house == goal) {
                return;
            }
            been |= 1 << house;
            for (int next = 0; next < town.houses.count; next++) {
                boolean isNew = (been >> next & 1) == 0;
                int then = isNew ? minuteAt(town, now, house, next, minute) : NO;
                if (then != NO) {
                    step(town, now, next, then, depth + 1);
                }
            }
            been ^= 1 << house;
        }

        private boolean isTooLate(int minute) {
            return goal != NONE && times[goal] != NO && minute - begun >= times[goal];
        }

        private void arrive(int house, int time, int houses) {
            if (times[house] != NO && times[house] <= time) {
                return;
            }
            times[house] = time;
            if (house == goal) {
                bestHouses = houses;
                System.arraycopy(walked, 0, best, 0, houses);
            }
        }

        // Who is earlier at a house is never later at the next, so the sooner of street and DOOR is enough.
        private int minuteAt(Town town, Now now, int house, int next, int minute) {
            int street = town.streets.between(house, next);
            int byStreet = street > 0 ? minute + street : NO;
            if (now.roomOf(house) != next || !now.hasDoor(house)) {
                return byStreet;
            }
            int byDoor = minute + town.houses.untilOpen(house, minute) + town.door;
            return byStreet == NO ? byDoor : Math.min(byStreet, byDoor);
        }
    }

    /** FITS of a TOWN: EXCHANGES move known rooms alone and take no other houses, so one count serves for all. */
    private static final class Fitting {
        private final int[] mayBe = new int[HOUSE_ROOM];
        private final int[] counts = new int[HOUSE_ROOM * HOUSE_ROOM];
        private final int[] placed = new int[HOUSE_ROOM];
        private final int[] firstRow = new int[HOUSE_ROOM];
        private int rows = 0;
        private boolean isCounted = false;

        void forget() {
            isCounted = false;
        }

        void countRows(Town town) {
            if (isCounted) {
                return;
            }
            isCounted = true;
            rows = 0;
            for (int i = 0; i < counts.length; i++) {
                counts[i] = 0;
            }
            for (int h = 0; h < HOUSE_ROOM; h++) {
                mayBe[h] = allowedBits(town, h);
            }
            rows = placeFrom(town.houses, 0, 0);
        }

        int rowCount() {
            return rows;
        }

        int possibleBits(int h) {
            int bits = 0;
            for (int g = 0; g < HOUSE_ROOM; g++) {
                if (counts[h * HOUSE_ROOM + g] > 0) {
                    bits |= 1 << g;
                }
            }
            return bits;
        }

        int sameInAll(int h) {
            int bits = possibleBits(h);
            for (int g = 0; g < HOUSE_ROOM; g++) {
                if (bits == 1 << g) {
                    return g;
                }
            }
            return NO;
        }

        int inFirstRow(int h) {
            return firstRow[h];
        }

        int houseToAsk() {
            int asked = NO;
            for (int h = 0; h < HOUSE_ROOM; h++) {
                int left = mostLeftBy(h);
                // Known houses, and all houses without a row, leave 0 here.
                if (left > 0 && (asked == NO || left < mostLeftBy(asked))) {
                    asked = h;
                }
            }
            return asked;
        }

        int mostLeftBy(int h) {
            int most = 0;
            for (int g = 0; g < HOUSE_ROOM; g++) {
                most = Math.max(most, counts[h * HOUSE_ROOM + g]);
            }
            return most;
        }

        private int allowedBits(Town town, int h) {
            Houses houses = town.houses;
            int bits = 0;
            for (int g = 0; g < houses.count; g++) {
                boolean free = g != h && !houses.isToldOf(g);
                if (free && town.clues.allow(h, houses.smells[g], houses.rooms[g])) {
                    bits |= 1 << g;
                }
            }
            return bits;
        }

        /** How many rows there are for the houses from h on, some being taken already. */
        private int placeFrom(Houses houses, int h, int taken) {
            if (h >= houses.count) {
                keepFirst();
                return 1;
            }
            if (houses.toldOf[h] != NO) {
                return placeFrom(houses, h + 1, taken);
            }
            int all = 0;
            for (int g = 0; g < houses.count; g++) {
                if ((mayBe[h] & ~taken & 1 << g) != 0) {
                    placed[h] = g;
                    int found = placeFrom(houses, h + 1, taken | 1 << g);
                    counts[h * HOUSE_ROOM + g] += found;
                    all += found;
                }
            }
            return all;
        }

        private void keepFirst() {
            if (rows == 0) {
                System.arraycopy(placed, 0, firstRow, 0, HOUSE_ROOM);
                rows = 1;
            }
        }
    }

    /** The BEST ROW of EXCHANGES, kept with the rooms it was found for, since it depends on nothing else. */
    private static final class Swaps {
        private static final int ROW_ROOM = 3;
        // An EXCHANGE gives two houses another one each, so at most four more are EACH OTHER'S.
        private static final int MOST_BY_ONE = 4;

        private final int[] foundFor = new int[HOUSE_ROOM];
        private boolean isFound = false;
        private final Now tried = new Now();
        private final int[] row = new int[ROW_ROOM];
        private final int[] best = new int[ROW_ROOM];
        private int bestRow = 0;
        private int mostPaired = NONE;

        int bestCount() {
            return mostPaired;
        }

        int bestLength() {
            return bestRow;
        }

        int bestAt(int i) {
            return best[i];
        }

        void findBest(Now now) {
            if (isFound && isFoundFor(now)) {
                return;
            }
            tried.copyFrom(now);
            mostPaired = NONE;
            // Shorter rows come first: a longer one must pair more to take their place.
            for (int length = 0; length <= ROW_ROOM; length++) {
                search(0, length);
            }
            for (int h = 0; h < HOUSE_ROOM; h++) {
                foundFor[h] = now.roomOf(h);
            }
            isFound = true;
        }

        private boolean isFoundFor(Now now) {
            for (int h = 0; h < HOUSE_ROOM; h++) {
                if (foundFor[h] != now.roomOf(h)) {
                    return false;
                }
            }
            return true;
        }

        private void search(int depth, int length) {
            int paired = Integer.bitCount(tried.mutualBits());
            if (paired + MOST_BY_ONE * (length - depth) <= mostPaired) {
                return;
            }
            if (depth >= length || depth >= ROW_ROOM) {
                mostPaired = paired;
                bestRow = depth;
                System.arraycopy(row, 0, best, 0, depth);
                return;
            }
            for (int h = 0; h < HOUSE_ROOM; h++) {
                for (int g = h + 1; g < HOUSE_ROOM; g++) {
                    if (tried.canSwap(h, g)) {
                        row[depth] = 10 * h + g;
                        tried.swapRooms(h, g);
                        search(depth + 1, length);
                        tried.swapRooms(h, g);
                    }
                }
            }
        }
    }

    /** RENTS of two owners. */
    private static final class Rents {
        private static final int MUTUAL_WORTH = 2;

        private int oneWorth = 0;
        private int otherWorth = 0;
        private int tenants = 0;
        private int like = 0;
        private final int[] oneBest = new int[TENS];
        private final int[] otherBest = new int[TENS];
        private int restsFound = 0;
        private int firstFound = NO;

        void between(Town town, Now now, int h, int g) {
            tenants = town.houses.rooms[h] + town.houses.rooms[g];
            like = town.like;
            oneWorth = town.houses.rooms[h] + (now.isMutual(h) ? MUTUAL_WORTH : 0);
            otherWorth = town.houses.rooms[g] + (now.isMutual(g) ? MUTUAL_WORTH : 0);
        }

        int onesGain(int tens, int others) {
            return tens * tenantsBy(oneWorth - tens - (otherWorth - others));
        }

        int othersGain(int tens, int others) {
            return others * tenantsBy(otherWorth - others - (oneWorth - tens));
        }

        private int tenantsBy(int moreWorth) {
            if (Math.abs(moreWorth) <= like) {
                return tenants / 2;
            }
            return moreWorth > 0 ? tenants : 0;
        }

        void findRests() {
            findBestGains();
            restsFound = 0;
            firstFound = NO;
            for (int tens = 0; tens < TENS; tens++) {
                for (int others = 0; others < TENS; others++) {
                    noteIfRest(tens, others);
                }
            }
        }

        int restCount() {
            return restsFound;
        }

        int firstRest() {
            return firstFound;
        }

        private void findBestGains() {
            for (int fixed = 0; fixed < TENS; fixed++) {
                oneBest[fixed] = 0;
                otherBest[fixed] = 0;
                for (int free = 0; free < TENS; free++) {
                    oneBest[fixed] = Math.max(oneBest[fixed], onesGain(free, fixed));
                    otherBest[fixed] = Math.max(otherBest[fixed], othersGain(fixed, free));
                }
            }
        }

        private void noteIfRest(int tens, int others) {
            boolean oneStays = onesGain(tens, others) == oneBest[others];
            boolean otherStays = othersGain(tens, others) == otherBest[tens];
            if (oneStays && otherStays) {
                if (restsFound == 0) {
                    firstFound = 10 * tens + others;
                }
                restsFound++;
            }
        }
    }
}
