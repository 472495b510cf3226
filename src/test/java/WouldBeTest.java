/** Promises 22 to 25: what would be. */
public final class WouldBeTest {
    private static final Due due = new Due();

    public static void main(String[] args) {
        ifCovered();
        ifCoveredRefused();
        bestByWaste();
        bestByOrder();
        bestRefused();
        suits();
        coverAll();
        coverAllFollows();
        due.end();
    }

    private static void ifCovered() {
        due.promise("22");
        CarpetCounter x = Due.with(0, 10, 200, 2, "25x30+4x8@2");
        String before = Due.told(x);
        int[] zero = {2 * 782 + 2 * 60, 4, 60, 30, 90, 1};
        int[] one = {2 * 782 + 6 * 50, 4, 50, 8, 79, 0};
        for (int what = 0; what < 6; what++) {
            due.is(zero[what], x.ifCovered(0, 0, 0, what), "ifCovered way 0, " + what);
            due.is(one[what], x.ifCovered(0, 0, 1, what), "ifCovered way 1, " + what);
        }
        due.same(before, x, "ifCovered");
        due.is(zero[0], x.cover(0, 0, 0), "cover");
        due.is(zero[3], x.count(5), "waste");
    }

    private static void ifCoveredRefused() {
        due.promise("22");
        CarpetCounter x = Due.with(0, 10, 20, 2, "10x15@0;10x6@1;10x5@0");
        x.cover(0, 0, 0);
        due.is(-1, x.ifCovered(3, 0, 0, 0), "room");
        due.is(-1, x.ifCovered(-1, 0, 7, 0), "room goes ahead");
        due.is(-1, x.ifCovered(0, 1, 0, 9), "roll goes ahead");
        due.is(-2, x.ifCovered(0, 0, 2, 0), "way");
        due.is(-2, x.ifCovered(0, 0, -1, 0), "way");
        due.is(-2, x.ifCovered(0, 0, 0, 6), "what goes ahead of the reason");
        due.is(-2, x.ifCovered(0, 0, 0, -1), "what");
        due.is(-11, x.ifCovered(0, 0, 0, 5), "covered");
        due.is(-13, x.ifCovered(1, 0, 0, 1), "too short");
        due.is(5, x.ifCovered(2, 0, 0, 4), "length");
        x.set(4, 1);
        due.is(-12, x.ifCovered(1, 0, 0, 0), "across");
        due.is(-11, x.ifCovered(0, 0, 1, 0), "covered goes ahead");
    }

    private static void bestByWaste() {
        due.promise("23");
        // 8 x 10 from 9 wide wastes 10, from 10 wide 20, from 20 wide nothing (an offcut)
        CarpetCounter x = Due.with(2, 10, 99, 1, "8x10@0");
        x.roll(2, 9, 99, 50);
        x.roll(3, 20, 99, 9);
        due.is(0, x.best(0, 2, 0), "with the way 1 nothing is wasted");
        due.is(1, x.best(0, 2, 1), "the way");
        due.is(0, x.best(0, 2, 2), "the waste");
        due.is(80, x.best(0, 2, 3), "the price");
        x.set(4, 1);
        due.is(1, x.best(0, 2, 0), "the roll");
        due.is(0, x.best(0, 2, 1), "the way");
        due.is(10, x.best(0, 2, 2), "the waste");
        due.is(4000, x.best(0, 2, 3), "the price");
        due.is(2, x.best(0, 3, 0), "the other kind");
        due.is(720, x.best(0, 3, 3), "its price");
        due.is(3 + 1, x.count(9), "no act");
        due.is(99, x.rollOf(1, 2), "nothing is cut");
    }

    private static void bestByOrder() {
        due.promise("23");
        CarpetCounter x = Due.with(0, 10, 5, 1, "6x6@0");
        x.roll(0, 10, 99, 4);
        x.roll(0, 10, 99, 3);
        x.roll(0, 10, 99, 3);
        x.roll(1, 10, 99, 1);
        due.is(2, x.best(0, 0, 0), "the lower price, then the lower roll");
        due.is(0, x.best(0, 0, 1), "then the way 0");
        due.is(108, x.best(0, 0, 3), "the price");
        CarpetCounter y = Due.with(0, 5, 99, 0, "6x6@0");
        due.is(0, y.best(0, 0, 1), "the way");
        due.is(12, y.best(0, 0, 3), "a seam with the light");
        CarpetCounter z = Due.with(0, 5, 99, 0, "6x6@1");
        due.is(1, z.best(0, 0, 1), "the way with the lower price");
    }

    private static void bestRefused() {
        due.promise("23");
        CarpetCounter x = Due.with(0, 10, 50, 1, "6x6@0;60x60@0");
        due.is(-1, x.best(2, 0, 0), "room");
        due.is(-1, x.best(-1, 10, 0), "room goes ahead");
        due.is(-2, x.best(0, 10, 0), "kind");
        due.is(-2, x.best(0, -1, 0), "kind");
        due.is(-2, x.best(0, 0, 4), "what");
        due.is(-2, x.best(0, 0, -1), "what");
        due.is(-5, x.best(0, 9, 0), "no roll of that kind");
        due.is(-5, x.best(1, 0, 2), "no roll suffices");
        x.cover(0, 0, 0);
        due.is(-5, x.best(0, 0, 0), "covered");
        due.is(-2, x.best(0, 0, 9), "what goes ahead");
    }

    private static void suits() {
        due.promise("24");
        CarpetCounter x = Due.with(0, 20, 99, 1, "12x20@0;9x9@0;3x3+1x1@0;4x8@1;8x4@1;8x20@1;1x1@0");
        x.cover(0, 0, 0);
        // the offcut 0 is 8 wide and 20 long
        due.is(3, x.suits(0), "the room 3, for 1 is too wide and 2 has two rectangles");
        x.cover(3, 0, 0);
        due.is(4, x.suits(1), "by one of both ways");
        due.is(-1, x.suits(0), "cut");
        due.is(-1, x.suits(-1), "unknown");
        due.is(-1, x.suits(300), "unknown");
        CarpetCounter y = Due.with(0, 20, 99, 1, "12x20@0;8x20@1;8x20@2");
        y.cover(0, 0, 0);
        due.is(1, y.suits(0), "without the light");
        y.set(4, 1);
        due.is(2, y.suits(0), "with the light");
        due.is(3, y.count(9) - 1, "no act");
        CarpetCounter z = Due.with(0, 20, 99, 1, "12x20@0;20x8@2;20x9@0;21x8@0");
        z.cover(0, 0, 0);
        due.is(1, z.suits(0), "the way 1");
        z.set(4, 1);
        due.is(-5, z.suits(0), "none with the light");
    }

    private static void coverAll() {
        due.promise("25");
        CarpetCounter x = Due.with(0, 10, 30, 1, "10x20@0;10x20@0;8x10@0;9x60@0");
        String before = Due.told(x);
        due.is(2, x.coverAll(0, 0), "the rooms 0 and 2");
        due.is(0, x.coverAll(0, 1), "waste");
        due.same(before, x, "coverAll");
        x.set(4, 1);
        due.is(2, x.coverAll(0, 0), "with the light");
        due.is(20, x.coverAll(0, 1), "waste");
        x.cover(0, 0, 0);
        due.is(1, x.coverAll(0, 0), "bare rooms alone");
        due.is(0, x.coverAll(1, 0), "no roll");
        due.is(0, x.coverAll(1, 1), "no roll");
        due.is(-2, x.coverAll(-1, 0), "kind");
        due.is(-2, x.coverAll(10, 0), "kind");
        due.is(-2, x.coverAll(0, 2), "what");
        due.is(-2, x.coverAll(0, -1), "what");
        due.is(0, new CarpetCounter().coverAll(0, 0), "no rooms");
    }

    /** Offcuts that come by a room serve for later ones. */
    private static void coverAllFollows() {
        due.promise("25");
        CarpetCounter x = Due.with(0, 20, 20, 1, "12x20@0;6x20@0;2x20@2;1x1@0");
        x.set(4, 1);
        due.is(2, x.coverAll(0, 0), "how many");
        due.is(40, x.coverAll(0, 1), "2 x 20 is thrown away");
        x.set(1, 2);
        due.is(3, x.coverAll(0, 0), "how many");
        due.is(0, x.coverAll(0, 1), "nothing is thrown away");
        due.is(0, x.count(2), "nothing is covered");
    }
}
