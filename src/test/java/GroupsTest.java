/** Promises 23 to 28. */
final class GroupsTest {
    private static final Check CHECK = new Check("GroupsTest");
    private static final long IDENTITY = permutation("01234567");
    private static final long FIRST_TWO = permutation("10234567");
    private static final long ROUND = permutation("12345670");
    private static final long BACK = permutation("70123456");
    private static final long TURNED = permutation("76543210");

    private static final long[] NO_PERMUTATIONS = {
        0, 1, -1, Long.MIN_VALUE, Long.MAX_VALUE, 0x76543211L, 0x86543210L, 0x76543218L, 0xF6543210L,
        0x176543210L, 0x8000000076543210L, 0x76543210L << 4, 0x07654321L << 32,
    };

    public static void main(String[] args) {
        addGenerator();
        wellKnownGroups();
        mostGenerators();
        forgetGenerators();
        isInGroup();
        moves();
        fixing();
        throwingChangesNothing();
        CHECK.end();
    }

    /** The images of the points 0, 1, and so on. */
    private static long permutation(String images) {
        long number = 0;
        for (int point = 0; point < 8; point++) {
            number |= (long) (images.charAt(point) - '0') << 4 * point;
        }
        return number;
    }

    private static void addGenerator() {
        CanonCote cote = new CanonCote();
        CHECK.due("25: new", cote.order(), 1);
        CHECK.due("23: the identity", cote.addGenerator(IDENTITY), 1);
        CHECK.due("23: two exchanged", cote.addGenerator(FIRST_TWO), 2);
        CHECK.due("23: again", cote.addGenerator(FIRST_TWO), 2);
        CHECK.due("25: order", cote.order(), 2);
        CHECK.due("23: round", cote.addGenerator(ROUND), 40320);
        CHECK.due("25: all", cote.order(), 40320);
        for (long wrong : NO_PERMUTATIONS) {
            CHECK.throwsArgument("23: " + wrong, () -> cote.addGenerator(wrong));
        }
        CHECK.due("23: nothing added", cote.forgetGenerators(), 4);
    }

    private static void wellKnownGroups() {
        groupHas("a circle", 8, "12345670");
        groupHas("a circle, turned over", 16, "12345670", "76543210");
        groupHas("a circle of five and one of three", 15, "12340675");
        groupHas("even ones", 20160, "12034567", "02345671");
        groupHas("even ones of seven", 2520, "12034567", "12345607");
        groupHas("four twice, exchanged", 1152, "10234567", "12304567", "45670123");
        groupHas("pairs", 384, "10234567", "23014567", "23456701");
        groupHas("the quaternions", 8, "12305674", "47652103");
        groupHas("linear maps", 168, "02463175", "01235476");
        groupHas("affine maps", 1344, "02463175", "01235476", "10325476");
        groupHas("three pairs apart", 8, "10234567", "01324567", "01235467");
    }

    private static void groupHas(String name, int order, String... generators) {
        CanonCote cote = new CanonCote();
        int answered = 1;
        for (String generator : generators) {
            answered = cote.addGenerator(permutation(generator));
        }
        CHECK.due("23: " + name, answered, order);
        CHECK.due("25: " + name, cote.order(), order);
        CHECK.due("28: " + name, cote.fixing(0), order);
        for (String generator : generators) {
            CHECK.due("26: " + name, cote.isInGroup(permutation(generator)), true);
        }
    }

    private static void mostGenerators() {
        CanonCote cote = new CanonCote();
        for (int count = 1; count <= 6; count++) {
            CHECK.due("23: generator " + count, cote.addGenerator(TURNED), 2);
        }
        CHECK.throwsState("23: the seventh", () -> cote.addGenerator(ROUND));
        CHECK.throwsState("23: one that is in", () -> cote.addGenerator(TURNED));
        CHECK.throwsArgument("23: no permutation first", () -> cote.addGenerator(0));
        CHECK.due("23: nothing changed", cote.order(), 2);
        CHECK.due("24: six", cote.forgetGenerators(), 6);
        CHECK.due("23: room again", cote.addGenerator(ROUND), 8);
    }

    private static void forgetGenerators() {
        CanonCote cote = new CanonCote();
        CHECK.due("24: none", cote.forgetGenerators(), 0);
        cote.addGenerator(IDENTITY);
        cote.addGenerator(ROUND);
        cote.addGenerator(ROUND);
        CHECK.due("24: three", cote.forgetGenerators(), 3);
        CHECK.due("24: none left", cote.forgetGenerators(), 0);
        CHECK.due("24: order", cote.order(), 1);
        CHECK.due("24: in the group", cote.isInGroup(ROUND), false);
        CHECK.due("24: moves", cote.moves(3), 8);
        CHECK.due("24: fixing", cote.fixing(255), 1);
        CHECK.due("24: another group", cote.addGenerator(FIRST_TWO), 2);
        CHECK.due("24: the old one is gone", cote.isInGroup(ROUND), false);
    }

    private static void isInGroup() {
        CanonCote cote = new CanonCote();
        CHECK.due("26: the identity", cote.isInGroup(IDENTITY), true);
        CHECK.due("26: another one", cote.isInGroup(FIRST_TWO), false);
        cote.addGenerator(ROUND);
        CHECK.due("26: the generator", cote.isInGroup(ROUND), true);
        CHECK.due("26: the other way", cote.isInGroup(BACK), true);
        CHECK.due("26: twice", cote.isInGroup(permutation("23456701")), true);
        CHECK.due("26: turned over", cote.isInGroup(TURNED), false);
        cote.addGenerator(TURNED);
        CHECK.due("26: turned over, then round", cote.isInGroup(permutation("07654321")), true);
        CHECK.due("26: two exchanged", cote.isInGroup(FIRST_TWO), false);
        for (long wrong : NO_PERMUTATIONS) {
            CHECK.throwsArgument("26: " + wrong, () -> cote.isInGroup(wrong));
        }
    }

    private static void moves() {
        CanonCote cote = new CanonCote();
        for (int point = 0; point < 8; point++) {
            CHECK.due("27: nothing moves", cote.moves(point), 1 << point);
        }
        cote.addGenerator(permutation("12034567"));
        cote.addGenerator(permutation("01245637"));
        int[] due = {7, 7, 7, 120, 120, 120, 120, 128};
        for (int point = 0; point < 8; point++) {
            CHECK.due("27: point " + point, cote.moves(point), due[point]);
        }
        // Each generator alone moves few points; far points are reached by many of them.
        cote.forgetGenerators();
        for (String images : new String[] {"01234576", "01235467", "01243567", "01324567", "02134567", "10234567"}) {
            cote.addGenerator(permutation(images));
        }
        CHECK.due("27: from the point 0", cote.moves(0), 63);
        CHECK.due("27: from the point 5", cote.moves(5), 63);
        CHECK.due("27: from the point 7", cote.moves(7), 192);
        cote.forgetGenerators();
        cote.addGenerator(ROUND);
        CHECK.due("27: round", cote.moves(5), 255);
        for (int wrong : new int[] {-1, 8, Integer.MIN_VALUE, Integer.MAX_VALUE}) {
            CHECK.throwsIndex("27: point " + wrong, () -> cote.moves(wrong));
        }
    }

    private static void fixing() {
        CanonCote cote = new CanonCote();
        CHECK.due("28: the identity alone", cote.fixing(170), 1);
        cote.addGenerator(FIRST_TWO);
        CHECK.due("28: a moved point", cote.fixing(2), 1);
        CHECK.due("28: points that stay", cote.fixing(252), 2);
        cote.addGenerator(ROUND);
        int[] left = {40320, 5040, 720, 120, 24, 6, 2, 1, 1};
        for (int points = 0; points < 256; points++) {
            CHECK.due("28: all permutations, " + points, cote.fixing(points), left[Integer.bitCount(points)]);
        }
        cote.forgetGenerators();
        cote.addGenerator(ROUND);
        cote.addGenerator(TURNED);
        CHECK.due("28: none", cote.fixing(0), 16);
        CHECK.due("28: one", cote.fixing(4), 2);
        CHECK.due("28: opposite ones", cote.fixing(68), 2);
        CHECK.due("28: others", cote.fixing(20), 1);
        for (int wrong : new int[] {-1, 256, Integer.MIN_VALUE, Integer.MAX_VALUE}) {
            CHECK.throwsArgument("28: points " + wrong, () -> cote.fixing(wrong));
        }
        CHECK.due("28: nothing changed", cote.order(), 16);
    }

    private static void throwingChangesNothing() {
        CanonCote cote = new CanonCote();
        cote.addGenerator(ROUND);
        CHECK.throwsArgument("addGenerator", () -> cote.addGenerator(0x76543200L));
        CHECK.throwsArgument("isInGroup", () -> cote.isInGroup(0x76543200L));
        CHECK.throwsIndex("moves", () -> cote.moves(8));
        CHECK.throwsArgument("fixing", () -> cote.fixing(256));
        CHECK.due("order", cote.order(), 8);
        CHECK.due("in the group", cote.isInGroup(BACK), true);
        CHECK.due("generators", cote.forgetGenerators(), 1);
    }
}
