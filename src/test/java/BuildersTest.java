/** Promises 35 and 36: builders, builtOf. */
final class BuildersTest {
    private static final int MIN = Integer.MIN_VALUE;
    private static final int MAX = Integer.MAX_VALUE;

    private BuildersTest() {
    }

    public static void main(String[] args) {
        builders();
        builtOf();
        Check.end();
    }

    private static void builders() {
        Check.promise(35, "how many houses are EACH OTHER'S then.", BuildersTest::manyPaired);
        Check.promise(35, "BUILDERS by a SEED: so many times a DRAW mod houses, a DRAW mod houses", BuildersTest::byRealOnes);
        Check.promise(35, "BUILDERS n times (0 .. 60)", BuildersTest::noTimesAndMost);
        Check.promise(35, "by a SEED (0 .. 65,536)", BuildersTest::leastAndMostSeed);
        Check.promise(35, "BUILDERS n times", BuildersTest::nothingIsDone);
        Check.promise(35, "NONE: 1 (no TOWN); 2.", BuildersTest::buildersRefused);
        Check.promise(35, "NONE: 1 (no TOWN); 2.", BuildersTest::buildersWithoutTown);
    }

    private static void builtOf() {
        Check.promise(36, "The house of which a house's wrong room is then", BuildersTest::builtOfThen);
        Check.promise(36, "(SEED becomes (75 times SEED and 74) mod 65,537)", BuildersTest::draws);
        Check.promise(36, "these two EXCHANGE, if they can", BuildersTest::sameHouse);
        Check.promise(36, "these two EXCHANGE, if they can", BuildersTest::itsOwn);
        Check.promise(36, "these two EXCHANGE, if they can", BuildersTest::notKnown);
        Check.promise(36, "The house of which a house's wrong room is then", BuildersTest::fromNowOn);
        Check.promise(36, "; -2.", BuildersTest::builtOfUnknown);
        Check.promise(36, "NONE: 1; 2.", BuildersTest::builtOfRefused);
    }

    private static WrongRoom rooms(String wrongs) {
        return Check.town(Check.houses(wrongs.length()) + Check.wrongs(wrongs));
    }

    private static void manyPaired() {
        WrongRoom x = rooms("bcda");
        Check.answered(x, "builders(0, 1), 74 and 5624 are 2 and 0", x.builders(0, 1), 4);
        Check.answered(x, "builders(0, 0)", x.builders(0, 0), 0);
    }

    /** The draws once more, by real exchanges, for all numbers of houses. */
    private static void byRealOnes() {
        String round = "bcdefg";
        for (int houses = 2; houses <= 7; houses++) {
            String wrongs = round.substring(0, houses - 1) + "a";
            for (int seed = 0; seed <= 65536; seed += 8192) {
                byRealOnes(rooms(wrongs), rooms(wrongs), houses, seed);
            }
        }
    }

    private static void byRealOnes(WrongRoom x, WrongRoom done, int houses, int seed) {
        long drawn = seed;
        for (int n = 0; n <= 60; n++) {
            if (n % 15 == 0) {
                Check.due("builders(" + seed + ", " + n + ")", x.builders(seed, n), Integer.bitCount(done.mutual()));
                for (int h = 0; h < houses; h++) {
                    Check.due("builtOf(" + h + ", " + seed + ", " + n + ")", x.builtOf(h, seed, n), done.house(h, 3));
                }
            }
            drawn = (75 * drawn + 74) % 65537;
            int one = (int) (drawn % houses);
            drawn = (75 * drawn + 74) % 65537;
            done.exchange(one, (int) (drawn % houses));
        }
    }

    private static void noTimesAndMost() {
        WrongRoom x = rooms("badcfe");
        Check.answered(x, "builders(7, 0)", x.builders(7, 0), 6);
        for (int h = 0; h < 6; h++) {
            Check.answered(x, "builtOf(" + h + ", 7, 0)", x.builtOf(h, 7, 0), h % 2 == 0 ? h + 1 : h - 1);
        }
        Check.due("builders(7, 60) is answered", x.builders(7, 60) >= 0, true);
        Check.due("trouble()", x.trouble(), 0);
        Check.refused(x, "builders(7, 61)", x.builders(7, 61), 2);
        Check.refused(x, "builders(7, -1)", x.builders(7, -1), 2);
    }

    /** SEED 65,536 becomes itself, so both draws are always of one house. */
    private static void leastAndMostSeed() {
        String round = "bcdefg";
        for (int houses = 2; houses <= 7; houses++) {
            WrongRoom x = rooms(round.substring(0, houses - 1) + "a");
            for (int h = 0; h < houses; h++) {
                Check.answered(x, "builtOf(" + h + ", 65536, 60)", x.builtOf(h, 65536, 60), (h + 1) % houses);
            }
            Check.answered(x, "builders(65536, 60)", x.builders(65536, 60), houses == 2 ? 2 : 0);
        }
        WrongRoom x = rooms("bcda");
        Check.answered(x, "builders(0, 1)", x.builders(0, 1), 4);
        Check.refused(x, "builders(-1, 1)", x.builders(-1, 1), 2);
        Check.refused(x, "builders(65537, 1)", x.builders(65537, 1), 2);
    }

    private static void nothingIsDone() {
        WrongRoom x = rooms("bcdefga");
        String before = Check.state(x);
        x.builders(5, 60);
        x.builtOf(3, 5, 60);
        Check.unchanged(x, "builders", before);
        Check.denied(x, "undo()", x.undo(), 6);
    }

    private static void buildersRefused() {
        WrongRoom x = rooms("ba");
        for (int seed : new int[] {-1, 65537, MIN, MAX}) {
            Check.refused(x, "builders(" + seed + ", 0)", x.builders(seed, 0), 2);
        }
        for (int n : new int[] {-1, 61, MIN, MAX}) {
            Check.refused(x, "builders(0, " + n + ")", x.builders(0, n), 2);
        }
    }

    private static void buildersWithoutTown() {
        WrongRoom x = new WrongRoom();
        Check.refused(x, "builders(0, 0)", x.builders(0, 0), 1);
        Check.refused(x, "builders(-1, 0)", x.builders(-1, 0), 1);
        Check.refused(x, "builders(0, 61)", x.builders(0, 61), 1);
    }

    private static void builtOfThen() {
        WrongRoom x = rooms("bcda");
        int[] due = {3, 2, 1, 0};
        for (int h = 0; h < 4; h++) {
            Check.answered(x, "builtOf(" + h + ", 0, 1)", x.builtOf(h, 0, 1), due[h]);
        }
    }

    /** By SEED 1: 149, 11249, 57305, 38044; mod 5: 4, 4, 0, 4. */
    private static void draws() {
        WrongRoom y = rooms("b.d.c");
        Check.answered(y, "builtOf(0, 1, 1)", y.builtOf(0, 1, 1), 1);
        Check.answered(y, "builtOf(4, 1, 1)", y.builtOf(4, 1, 1), 2);
        Check.answered(y, "builtOf(0, 1, 2)", y.builtOf(0, 1, 2), 2);
        Check.answered(y, "builtOf(4, 1, 2)", y.builtOf(4, 1, 2), 1);
        Check.answered(y, "builtOf(2, 1, 2)", y.builtOf(2, 1, 2), 3);
    }

    private static void sameHouse() {
        WrongRoom x = rooms("bcdea");
        for (int h = 0; h < 5; h++) {
            Check.answered(x, "builtOf(" + h + ", 1, 1), 4 and 4", x.builtOf(h, 1, 1), (h + 1) % 5);
        }
    }

    private static void itsOwn() {
        WrongRoom x = rooms("bcdea");
        for (int h = 0; h < 5; h++) {
            Check.answered(x, "builtOf(" + h + ", 1, 2), 0 and 4", x.builtOf(h, 1, 2), (h + 1) % 5);
        }
    }

    private static void notKnown() {
        WrongRoom x = rooms(".cdeb");
        int[] due = {-2, 2, 3, 4, 1};
        for (int h = 0; h < 5; h++) {
            Check.answered(x, "builtOf(" + h + ", 1, 2), 0 and 4", x.builtOf(h, 1, 2), due[h]);
        }
    }

    private static void fromNowOn() {
        WrongRoom x = rooms("bcda");
        x.exchange(0, 2);
        Check.answered(x, "builtOf(0, 0, 0)", x.builtOf(0, 0, 0), 3);
        Check.answered(x, "builtOf(0, 0, 1)", x.builtOf(0, 0, 1), 1);
        Check.answered(x, "builders(0, 1)", x.builders(0, 1), 0);
        Check.answered(x, "builders(0, 0)", x.builders(0, 0), 4);
    }

    private static void builtOfUnknown() {
        WrongRoom y = rooms("b.d.c");
        for (int n = 0; n <= 60; n += 20) {
            Check.answered(y, "builtOf(1, 1, " + n + ")", y.builtOf(1, 1, n), -2);
            Check.answered(y, "builtOf(3, 1, " + n + ")", y.builtOf(3, 1, n), -2);
        }
    }

    private static void builtOfRefused() {
        WrongRoom x = rooms("ba");
        for (int h : new int[] {-1, 2, 7, MIN, MAX}) {
            Check.refused(x, "builtOf(" + h + ", 0, 0)", x.builtOf(h, 0, 0), 1);
            Check.refused(x, "builtOf(" + h + ", -1, 61)", x.builtOf(h, -1, 61), 1);
        }
        for (int seed : new int[] {-1, 65537, MIN, MAX}) {
            Check.refused(x, "builtOf(0, " + seed + ", 0)", x.builtOf(0, seed, 0), 2);
        }
        for (int n : new int[] {-1, 61, MIN, MAX}) {
            Check.refused(x, "builtOf(1, 0, " + n + ")", x.builtOf(1, 0, n), 2);
        }
        Check.answered(x, "builtOf(1, 65536, 60)", x.builtOf(1, 65536, 60), 0);
    }
}
