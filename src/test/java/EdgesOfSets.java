import java.math.BigInteger;

/** Promises 51 to 56, 61, 62 and terms VII to IX, sentence by sentence. */
final class EdgesOfSets {
    private static final String NO_CELLS = EdgesOfWalks.NO_CELLS;
    private static final String NO_WIDOWS = EdgesOfWalks.NO_WIDOWS;
    private static final String NO_PARTS = "-1 -2147483648 2 3 2147483647";

    /** Widow w goes w + 1 cells on from 0: of a set the one with the greatest number makes the pegs. */
    private static final String RUNNERS = runners(7);

    private final Sentences s;

    private EdgesOfSets(Sentences s) {
        this.s = s;
    }

    static void hold(Sentences s) {
        EdgesOfSets edges = new EdgesOfSets(s);
        edges.worth();
        edges.share();
        edges.rests();
        edges.gets();
        edges.chance();
        edges.mean();
        edges.drawn();
        edges.luck();
        edges.terms();
    }

    private static String runners(int widows) {
        StringBuilder text = new StringBuilder("colony years 1 law 0 odds 7 wide 8 high 2;");
        for (int w = 0; w < widows; w++) {
            text.append("widow 0 0 faces 1 steps " + (w + 1) + " at 0 grief on;");
        }
        return text.toString();
    }

    private static String withOdds(int odds) {
        return RUNNERS.replace("odds 7", "odds " + odds);
    }

    private void worth() {
        s.of(51);
        s.says("What a set of WIDOWS (bits) is worth (VII).");
        s.told(Colonies.TWO_YEARS, "worth(0)=0 worth(1)=3 worth(2)=3 worth(3)=6");
        s.told(Colonies.BARE, "worth(0)=0");
        s.told(RUNNERS, "worth(0)=0 worth(1)=1 worth(64)=7 worth(127)=7 worth(63)=6 worth(5)=3");
        s.says("-2: there is no such set");
        s.refuses(-2, "worth(#)", "-1 -2147483648 4 5 8 128 256 2147483647");
        s.told(RUNNERS, "worth(128)=-2 worth(255)=-2 worth(-1)=-2");
        s.told(Colonies.BARE, "worth(1)=-2 worth(-1)=-2");
        s.says("no COLONY.");
        s.refusesWithoutColony(-2, "worth(0)");
    }

    private void share() {
        s.of(52);
        s.says("SHARE (VII) of a WIDOW, above (what 0; below 0, too), below (1).");
        s.told(Colonies.TWO_YEARS, "share(0,0)=3 share(0,1)=1 share(1,0)=3 share(1,1)=1");
        // worth 1, 7 and 2 of both: 0 has 1 and 2 less 7, a half of less 4; 1 has 7 and 1, a half of 8
        s.told(Colonies.IN_THE_WAY, "share(0,0)=-2 share(0,1)=1 share(1,0)=4 share(1,1)=1");
        // peg k of seven is shared by those who go so far: widow 0 has a seventh, widow 1 that and a sixth ..
        s.told(RUNNERS, "share(0,0)=1 share(0,1)=7 share(1,0)=13 share(1,1)=42 share(2,0)=107 share(2,1)=210"
                + " share(6,0)=363 share(6,1)=140");
        s.told(Colonies.TWO_YEARS, "keeps(1)=3 share(1,0)=0 share(1,1)=1 share(0,0)=3");
        s.says("-1,000,000: there are none such.");
        s.refuses(-1_000_000, "share(#,0)", NO_WIDOWS);
        s.refuses(-1_000_000, "share(0,#)", NO_PARTS);
        s.refusesWithoutColony(-1_000_000, "share(0,0)");
        s.told(Colonies.BARE, "share(0,0)=-1000000 share(0,1)=-1000000");
    }

    private void rests() {
        s.of(53);
        s.says("GAME (VIII): pairs of choices of two WIDOWS at REST, as bits:");
        s.told(Colonies.TWO_YEARS, "rests(0,1)=1 rests(1,0)=1");
        s.says("1 neither stays in, 2 the first one does, 4 the other one, 8 both.");
        // 0 gets 0 either way, 1 gets 2 if she walks
        s.told(Colonies.GONE, "rests(0,1)=3 rests(1,0)=5");
        // 0 gets 2 less by walking, 1 gets 2 more
        s.told(losing(), "rests(0,1)=2 rests(1,0)=4");
        s.told(losing(), "keeps(1)=1 rests(0,1)=10 rests(1,0)=12 keeps(0)=0 rests(0,1)=15");
        s.says("-2: there are none such");
        s.refuses(-2, "rests(#,0)", NO_WIDOWS);
        s.refuses(-2, "rests(0,#)", NO_WIDOWS);
        s.refuses(-2, "rests(#,#)", NO_WIDOWS);
        s.refusesWithoutColony(-2, "rests(0,1)");
        s.says("one twice.");
        s.refuses(-2, "rests(#,#)", "0 1");
    }

    /** Widow 0 is in two cells and moves two houses; widow 1 is in two cells. */
    private static String losing() {
        return "colony years 1 law 0 odds 0 wide 4 high 2;house 0 0;house 1 0;widow 0 0 faces 1 steps 1 at 0 grief on;"
                + "widow 3 1 faces 0 steps 1 at 0 grief on;";
    }

    private void gets() {
        s.of(54);
        s.says("What the first of two GETS by the choices (1 she stays in, 0 not; ");
        s.told(Colonies.TWO_YEARS, "gets(0,1,0,0)=2 gets(0,1,0,1)=2 gets(0,1,1,0)=0 gets(0,1,1,1)=0 gets(1,0,0,0)=2"
                + " gets(1,0,0,1)=4 gets(1,0,1,0)=0 gets(1,0,1,1)=0");
        s.says("below 0, too).");
        s.told(losing(), "gets(0,1,0,0)=-2 gets(0,1,0,1)=-2 gets(0,1,1,0)=0 gets(1,0,0,0)=2");
        // six houses behind seven cells
        s.told("colony years 1 law 0 odds 0 wide 8 high 2;house 0 0;house 1 0;house 2 0;house 3 0;house 4 0;house 5 0;"
                + "widow 0 0 faces 1 steps 5 at 0 grief on;widow 7 0 faces 2 steps 1 at 0 grief on;", "gets(0,1,0,0)=-6");
        s.says("-1,000: there are none such");
        s.refuses(-1_000, "gets(#,0,0,0)", NO_WIDOWS);
        s.refuses(-1_000, "gets(0,#,0,0)", NO_WIDOWS);
        s.refuses(-1_000, "gets(0,1,#,0)", NO_PARTS);
        s.refuses(-1_000, "gets(0,1,0,#)", NO_PARTS);
        s.refusesWithoutColony(-1_000, "gets(0,1,0,0)");
        s.says("one twice.");
        s.refuses(-1_000, "gets(#,#,0,0)", "0 1");
        s.refuses(-1_000, "gets(#,#,1,1)", "0 1");
    }

    private void chance() {
        s.of(55);
        s.says("CHANCE (IX): that a cell is ROAD in the last YEAR, above, below.");
        s.told(Colonies.TWO_YEARS, "chance(0,0)=1 chance(0,1)=2 chance(1,0)=1 chance(1,1)=2 chance(11,0)=0 chance(11,1)=1");
        s.told(Colonies.IN_THE_WAY, "chance(20,0)=6 chance(20,1)=25 chance(10,0)=21 chance(10,1)=25 chance(11,0)=3"
                + " chance(11,1)=5");
        // odds 7 of ten: 70 is ROAD if widow 6 walks, 0 if not all seven stay in, 7 to the seventh of ten to it
        s.told(RUNNERS, "chance(70,0)=3 chance(70,1)=10 chance(0,0)=9176457 chance(0,1)=10000000 chance(71,0)=0"
                + " chance(71,1)=1");
        s.told(withOdds(0), "chance(0,0)=1 chance(0,1)=1 chance(71,0)=0");
        s.told(withOdds(10), "chance(0,0)=0 chance(0,1)=1 chance(70,0)=0");
        s.told(Colonies.BARE, "chance(0,0)=0 chance(0,1)=1");
        s.says("-2: there are none such.");
        s.refuses(-2, "chance(#,0)", NO_CELLS);
        s.refuses(-2, "chance(0,#)", NO_PARTS);
        s.refusesWithoutColony(-2, "chance(0,0)");
        s.refusesWithoutColony(-2, "chance(0,1)");
    }

    private void mean() {
        s.of(56);
        s.says("The mean of PEGS in the last YEAR, above, below.");
        s.told(Colonies.TWO_YEARS, "mean(0)=3 mean(1)=1 keeps(0)=3 mean(0)=3 mean(1)=2");
        s.told(Colonies.IN_THE_WAY, "mean(0)=66 mean(1)=25");
        s.told(withOdds(0), "mean(0)=7 mean(1)=1");
        s.told(withOdds(10), "mean(0)=0 mean(1)=1");
        // peg k is there if one of those who go so far walks: 7 less the sum of 0.7 to the k, k 1 .. 7
        s.told(RUNNERS, "mean(0)=48588267 mean(1)=10000000");
        s.told(Colonies.BARE, "mean(0)=0 mean(1)=1");
        s.says("-2: there are none such");
        s.refuses(-2, "mean(#)", NO_PARTS);
        s.says("no COLONY.");
        s.refusesWithoutColony(-2, "mean(0)");
        s.refusesWithoutColony(-2, "mean(1)");
    }

    private void drawn() {
        s.of(61);
        s.says("DECADE drawn (IX) from a seed (0 .. 2,000,000,000)");
        for (int seed : new int[] {0, 1, 65_535, 65_536, 1_999_999_999, 2_000_000_000}) {
            s.told(RUNNERS, "drawn(" + seed + ",0)=" + fog(seed, 7) + " drawn(" + seed + ",1)=" + pegsIn(fog(seed, 7)));
        }
        s.says("what 0: WIDOWS who stay in for fog, as bits");
        // draws of seed 0: 0, 8, 8, 7, 8, 7, 5
        s.told(RUNNERS, "drawn(0,0)=65 keeps(0)=7 drawn(0,0)=65 keeps(5)=7 drawn(0,0)=65");
        s.told(withOdds(8), "drawn(0,0)=105");
        s.told(withOdds(0), "drawn(0,0)=0 drawn(2000000000,0)=0");
        s.told(withOdds(10), "drawn(0,0)=127 drawn(2000000000,0)=127");
        s.told(Colonies.BARE, "drawn(0,0)=0 drawn(0,1)=0");
        s.says("1: PEGS in the last YEAR.");
        s.told(RUNNERS, "drawn(0,1)=6 keeps(5)=7 drawn(0,1)=5 pegs(1)=7");
        s.told(withOdds(0), "drawn(0,1)=7");
        s.told(withOdds(10), "drawn(0,1)=0");
        s.says("-2: there are none such");
        s.refuses(-2, "drawn(#,0)", "-1 -2147483648 2000000001 2147483647");
        s.refuses(-2, "drawn(#,1)", "-1 -2147483648 2000000001 2147483647");
        s.refuses(-2, "drawn(0,#)", NO_PARTS);
        s.says("no COLONY.");
        s.refusesWithoutColony(-2, "drawn(0,0)");
        s.refusesWithoutColony(-2, "drawn(0,1)");
    }

    private static int pegsIn(int fog) {
        return 32 - Integer.numberOfLeadingZeros(127 & ~fog);
    }

    private void luck() {
        s.of(62);
        s.says("Of n (1 .. 20) such from seeds, the seed and 1, .., in how many a cell is ROAD in the last YEAR.");
        for (int seed : new int[] {0, 77, 1_999_999_990, 2_000_000_000}) {
            int many = 0;
            for (int n = 1; n <= 20; n++) {
                many += (fog(seed + n - 1, 7) & 64) == 0 ? 1 : 0;
                if (n == 1 || n == 2 || n == 20) {
                    s.told(RUNNERS, "luck(" + seed + "," + n + ",70)=" + many + " luck(" + seed + "," + n + ",71)=0");
                }
            }
        }
        s.told(withOdds(0), "luck(0,20,0)=20 luck(0,1,0)=1 luck(0,20,1)=0");
        s.told(withOdds(10), "luck(0,20,0)=0");
        s.says("-2: there are none such.");
        s.refuses(-2, "luck(0,#,0)", "0 -1 -2147483648 21 22 2147483647");
        s.refuses(-2, "luck(#,1,0)", "-1 -2147483648 2000000001 2147483647");
        s.refuses(-2, "luck(0,1,#)", NO_CELLS);
        s.refusesWithoutColony(-2, "luck(0,1,0)");
    }

    /** The draws of term IX, in exact numbers. */
    private static int fog(int seed, int odds) {
        BigInteger x = BigInteger.valueOf(seed);
        int fog = 0;
        for (int w = 0; w < 7; w++) {
            x = x.multiply(BigInteger.valueOf(1_103_515_245L)).add(BigInteger.valueOf(12_345L))
                    .mod(BigInteger.valueOf(2_147_483_648L));
            fog |= x.divide(BigInteger.valueOf(65_536)).intValue() % 10 < odds ? 1 << w : 0;
        }
        return fog;
    }

    private void terms() {
        s.of("VII");
        s.says("A set of WIDOWS alone walks: it is worth as many PEGS as there are in the last YEAR.");
        s.told(Colonies.IN_THE_WAY, "worth(0)=0 worth(1)=1 worth(2)=7 worth(3)=2 pegs(1)=2");
        s.told("colony years 2 law 0 odds 0 wide 2 high 2;widow 0 0 faces 1 steps 1 at 1 grief on;"
                + "widow 0 0 faces 1 steps 1 at 2 grief on;", "worth(1)=1 worth(2)=0 worth(3)=1");
        s.says("WIDOWS come in an order, each has what the set is worth more by her (below 0, too); each order is as likely:"
                + " the mean.");
        s.told(Colonies.IN_THE_WAY, "share(0,0)=-2 share(0,1)=1 share(1,0)=4 share(1,1)=1");
        s.told("colony years 1 law 0 odds 0 wide 3 high 2;widow 0 0 faces 1 steps 2 at 0 grief on;"
                + "widow 0 0 faces 1 steps 1 at 0 grief on;", "share(0,0)=3 share(0,1)=2 share(1,0)=1 share(1,1)=2");
        s.told("colony years 1 law 0 odds 0 wide 3 high 2;widow 0 0 faces 1 steps 2 at 0 grief on;",
                "share(0,0)=2 share(0,1)=1");
        s.of("VIII");
        s.says("Each of two WIDOWS stays in, or not.");
        // the third one walks as now
        String three = Colonies.IN_THE_WAY + "widow 4 1 faces 0 steps 1 at 0 grief on;";
        s.told(three, "gets(1,0,0,0)=2 gets(1,0,0,1)=8 gets(2,1,0,0)=2 gets(2,0,0,1)=2");
        s.says("She GETS 1 for each unlike cell in which she is");
        s.told(Colonies.SHUT_IN + "widow 1 1 faces 0 steps 4 at 0 grief on;", "gets(0,1,0,0)=1 gets(1,0,0,0)=1");
        s.told("colony years 1 law 0 odds 0 wide 2 high 2;widow 0 0 faces 1 steps 40 at 0 grief on;"
                + "widow 0 0 faces 1 steps 1 at 1 grief on;", "gets(0,1,0,0)=4 gets(1,0,0,0)=0");
        s.says("2 less for each HOUSE that is moved (or GONE) behind her walk");
        s.told(Colonies.TWO_YEARS, "ground(0)=4 moves(0)=1 gets(0,1,0,0)=2");
        s.told(Colonies.GONE, "ground(0)=4 moves(0)=2 gets(0,1,0,0)=0");
        s.says("0 if she stays in; the other one likewise.");
        s.told(losing(), "gets(0,1,1,0)=0 gets(0,1,1,1)=0 gets(1,0,1,0)=0 gets(1,0,1,1)=0");
        s.says("REST: neither GETS more by the other choice alone.");
        // widow 1 moves two houses to where widow 0 then walks: 0 gets 2 less for it, 2 more without her
        s.told("colony years 2 law 0 odds 0 wide 8 high 2;house 6 0;house 7 0;widow 0 0 faces 2 steps 1 at 1 grief on;"
                + "widow 3 0 faces 1 steps 4 at 0 grief on;", "gets(0,1,0,0)=-2 gets(0,1,0,1)=2 gets(1,0,0,0)=1"
                + " gets(1,0,0,1)=1 rests(0,1)=2 rests(1,0)=4");
        s.told(losing(), "rests(0,1)=2");
        s.told(Colonies.GONE, "rests(0,1)=3");
        s.of("IX");
        s.says("CHANCE: each WIDOW stays in for fog with odds in ten, by herself.");
        s.told("colony years 1 law 0 odds 3 wide 2 high 2;widow 0 0 faces 1 steps 1 at 0 grief on;"
                + "widow 0 1 faces 1 steps 1 at 0 grief on;", "chance(0,0)=7 chance(0,1)=10 chance(1,0)=7 mean(0)=7 mean(1)=5");
        s.says("FRACTIONS are told in lowest terms (0 / 1).");
        s.told("colony years 1 law 0 odds 5 wide 2 high 2;widow 0 0 faces 1 steps 2 at 0 grief on;",
                "mean(0)=1 mean(1)=1 chance(0,0)=1 chance(0,1)=2 chance(1,0)=0 chance(1,1)=1");
        s.told("colony years 1 law 0 odds 5 wide 2 high 2;widow 0 0 faces 1 steps 2 at 1 grief on;",
                "share(0,0)=0 share(0,1)=1 mean(0)=0 mean(1)=1");
        s.says("DRAWS: x becomes (1103515245 x + 12345) modulo 2,147,483,648 (at first it is the seed)");
        // from 0: 12345, 1406932606, 654583775, 1449466924, 229283573, 1109335178, 1051550459
        s.is("fog by hand of seed 0", fog(0, 6), 0b1000001);
        s.told(withOdds(6), "drawn(0,0)=65 drawn(2000000000,0)=" + fog(2_000_000_000, 6));
        s.says("a draw: x / 65536, cut, modulo 10.");
        for (int odds = 0; odds <= 10; odds++) {
            s.told(withOdds(odds), "drawn(12345,0)=" + fog(12_345, odds) + " drawn(1999999999,0)=" + fog(1_999_999_999, odds));
        }
        s.says("DECADE drawn: WIDOW by WIDOW told a draw: below odds she stays in.");
        s.told(withOdds(5), "drawn(0,0)=1");
        s.told(withOdds(6), "drawn(0,0)=65");
        s.told(withOdds(7), "drawn(0,0)=65");
        s.told(withOdds(8), "drawn(0,0)=105");
        s.told(withOdds(9), "drawn(0,0)=127");
        // one kept in, and one told too late, have their draws, too
        s.told(withOdds(6).replace("steps 1 at 0", "steps 1 at 5"), "drawn(0,0)=65 keeps(1)=7 drawn(0,0)=65 drawn(0,1)=6");
    }
}
