/** Promises 35 and 36: builders, builtOf. */
final class BuildersTest {
    private BuildersTest() {
    }

    public static void main(String[] args) {
        drawn();
        runs();
        refusals();
        Check.end();
    }

    /** By seed 1: 149, 11249, 57305, 38044; mod 5: 4, 4, 0, 4. */
    private static void drawn() {
        WrongRoom x = Check.town(Check.houses(5) + Check.wrongs("bcdea"));
        Check.due("builtOf(0, 1, 1), two like draws", x.builtOf(0, 1, 1), 1);
        Check.due("builtOf(0, 1, 2), its own", x.builtOf(0, 1, 2), 1);
        WrongRoom y = Check.town(Check.houses(5) + Check.wrongs("b.d.c"));
        Check.due("builtOf(0, 1, 2)", y.builtOf(0, 1, 2), 2);
        Check.due("builtOf(4, 1, 2)", y.builtOf(4, 1, 2), 1);
        Check.due("builtOf(4, 1, 1)", y.builtOf(4, 1, 1), 2);
        Check.due("builtOf(1, 1, 2), not known", y.builtOf(1, 1, 2), -2);
        Check.due("builders(1, 2)", y.builders(1, 2), 0);
        Check.due("nothing is done", y.house(0, 3), 1);
        Check.due("no act", y.size(10), 0);
        Check.due("trouble()", y.trouble(), 0);
    }

    /** The draws once more, by real exchanges. */
    private static void runs() {
        for (int seed = 0; seed <= 65536; seed += 4096) {
            WrongRoom x = Check.town(Check.houses(7) + Check.wrongs("bcdefga"));
            WrongRoom done = Check.town(Check.houses(7) + Check.wrongs("bcdefga"));
            long drawn = seed;
            for (int n = 0; n <= 60; n++) {
                if (n % 20 == 0) {
                    Check.due("builders(" + seed + ", " + n + ")", x.builders(seed, n),
                            Integer.bitCount(done.mutual()));
                    Check.due("builtOf(3, " + seed + ", " + n + ")", x.builtOf(3, seed, n), done.house(3, 3));
                }
                drawn = (75 * drawn + 74) % 65537;
                int one = (int) (drawn % 7);
                drawn = (75 * drawn + 74) % 65537;
                done.exchange(one, (int) (drawn % 7));
            }
        }
    }

    private static void refusals() {
        WrongRoom x = Check.town(Check.houses(2) + Check.wrongs("ba"));
        Check.due("builders(65536, 60)", x.builders(65536, 60), 2);
        Check.due("builders(0, 0)", x.builders(0, 0), 2);
        Check.refused(x, "builders(-1, 0)", x.builders(-1, 0), 2);
        Check.refused(x, "builders(65537, 0)", x.builders(65537, 0), 2);
        Check.refused(x, "builders(0, -1)", x.builders(0, -1), 2);
        Check.refused(x, "builders(0, 61)", x.builders(0, 61), 2);
        Check.refused(x, "builtOf(0, 0, 61)", x.builtOf(0, 0, 61), 2);
        Check.refused(x, "builtOf(0, 65537, 0)", x.builtOf(0, 65537, 0), 2);
        Check.refused(x, "builtOf(2, 0, 0)", x.builtOf(2, 0, 0), 1);
        Check.refused(x, "builtOf(-1, -1, 0)", x.builtOf(-1, -1, 0), 1);
    }
}
