/** The edges of strips, seams, cuts, rests, prices and of what is thrown away or sold. */
public final class CuttingTest {
    private static final Due due = new Due();

    public static void main(String[] args) {
        stripsAsManyAsNeeded();
        stripsTheOtherWay();
        stripsAtMost();
        stripsAtMostOfAllRooms();
        noSeamsBetweenRectangles();
        rollThatSuffices();
        offcutThatSuffices();
        leastOffcut();
        ruleZeroAndOne();
        ruleTwo();
        exactCut();
        leastSideOfAPiece();
        leastSideBehind();
        leastSideAtFirst();
        seamsAcross();
        seamPriceAtItsEnds();
        piecesOfTheRollFirstOfAll();
        takeUpWhateverTheSides();
        sellRoundedDown();
        clearBelow();
        due.end();
    }

    private static void stripsAsManyAsNeeded() {
        due.promise("4, as many as it needs, each as wide as the roll but the last one");
        // the width of the room, its strips, the width of the last one; the roll is 10 wide
        int[][] rows = {{1, 1, 1}, {9, 1, 9}, {10, 1, 10}, {11, 2, 1}, {19, 2, 9}, {20, 2, 10}, {21, 3, 1},
            {59, 6, 9}, {60, 6, 10}};
        for (int[] row : rows) {
            CarpetCounter x = Due.with(0, 10, 99, 1, row[0] + "x7@0");
            due.is(row[1], x.ifCovered(0, 0, 0, 1), "ifCovered, strips of " + row[0]);
            due.is(7 * (row[1] - 1), x.ifCovered(0, 0, 0, 2), "ifCovered, seams of " + row[0]);
            due.is(7 * row[0] + 2 * 7 * (row[1] - 1), x.cover(0, 0, 0), "cover of " + row[0]);
            due.is(row[1], x.room(0, 6), "strips of " + row[0]);
            due.is(7 * (row[1] - 1), x.room(0, 7), "seams of " + row[0]);
            for (int rank = 0; rank < row[1]; rank++) {
                due.is(rank < row[1] - 1 ? 10 : row[2], x.strip(0, rank, 0), "strip " + rank + " of " + row[0]);
                due.is(7, x.strip(0, rank, 1), "its length");
            }
            due.is(-5, x.strip(0, row[1], 0), "no more strips of " + row[0]);
        }
    }

    private static void stripsTheOtherWay() {
        due.promise("4, with the way 1 it is the other way round");
        int[][] rows = {{1, 1, 1}, {9, 1, 9}, {10, 1, 10}, {11, 2, 1}, {20, 2, 10}, {21, 3, 1}};
        for (int[] row : rows) {
            CarpetCounter x = Due.with(0, 10, 99, 1, "7x" + row[0] + "@3");
            due.is(7 * row[0] + 2 * 7 * (row[1] - 1), x.cover(0, 0, 1), "cover of " + row[0]);
            due.is(row[1], x.room(0, 6), "strips of " + row[0]);
            due.is(row[2], x.strip(0, row[1] - 1, 0), "the last strip of " + row[0]);
            due.is(7, x.strip(0, row[1] - 1, 1), "its length");
        }
    }

    private static void stripsAtMost() {
        due.promise("19, from 0, in the order in which they were cut");
        CarpetCounter x = Due.with(0, 5, 999, 1, "56x1+57x2+60x3@0");
        due.is(36, x.ifCovered(0, 0, 0, 1), "ifCovered");
        x.cover(0, 0, 0);
        int[][] rows = {{0, 5, 1}, {10, 5, 1}, {11, 1, 1}, {12, 5, 2}, {23, 2, 2}, {24, 5, 3}, {35, 5, 3}};
        for (int[] row : rows) {
            due.is(row[1], x.strip(0, row[0], 0), "width of the strip " + row[0]);
            due.is(row[2], x.strip(0, row[0], 1), "length of the strip " + row[0]);
        }
        due.is(-5, x.strip(0, 36, 0), "the strip 36");
        due.is(11 * 6, x.room(0, 7), "seams");
    }

    /** 36 strips of each room; their sources tell them apart. */
    private static void stripsAtMostOfAllRooms() {
        due.promise("19, the offcut from which it was cut");
        CarpetCounter x = Due.with(0, 5, 999, 1, "60x1+60x1+60x1@0;60x1+60x1+60x1@0;60x1+60x1+60x1@0");
        x.cover(1, 0, 0);
        x.takeUp(1);
        x.cover(1, 0, 0);
        x.cover(0, 0, 0);
        x.cover(2, 0, 0);
        for (int rank = 0; rank < 36; rank++) {
            due.is(-5, x.strip(0, rank, 2), "the source of the strip " + rank + " of the room 0");
            due.is(rank, x.strip(1, rank, 2), "the source of the strip " + rank + " of the room 1");
            due.is(-5, x.strip(2, rank, 2), "the source of the strip " + rank + " of the room 2");
        }
    }

    private static void noSeamsBetweenRectangles() {
        due.promise("4, between rectangles there are no seams");
        CarpetCounter x = Due.with(0, 10, 99, 1, "10x7@0;10x7+10x7@0;10x7+10x7+10x7@0;11x7+10x7@0");
        int[] seams = {0, 0, 0, 7};
        for (int room = 0; room < 4; room++) {
            due.is(seams[room], x.ifCovered(room, 0, 0, 2), "ifCovered of the room " + room);
            due.is(x.room(room, 1) + 2 * seams[room], x.cover(room, 0, 0), "cover of the room " + room);
            due.is(seams[room], x.room(room, 7), "seams of the room " + room);
        }
    }

    private static void rollThatSuffices() {
        due.promise("4, if its length suffices");
        int[][] rows = {{19, -13, 19}, {20, 200, 0}, {21, 200, 1}};
        for (int[] row : rows) {
            CarpetCounter x = Due.with(0, 10, row[0], 1, "10x20@0");
            due.is(row[1], x.cover(0, 0, 0), "cover from a roll " + row[0] + " long");
            due.is(row[2], x.rollOf(0, 2), "left of " + row[0]);
        }
        CarpetCounter x = Due.with(0, 10, 40, 1, "20x20@0;1x1@0;30x20@0");
        due.is(-13, x.cover(2, 0, 0), "two strips of three");
        due.is(440, x.cover(0, 0, 0), "two strips of two");
        due.is(0, x.rollOf(0, 2), "left");
        due.is(-13, x.cover(1, 0, 0), "nothing is left");
        due.is(2, x.takeUp(0), "takeUp");
        due.is(1, x.cover(1, 0, 0), "an offcut suffices");
        due.is(0, x.strip(1, 0, 2), "its source");
        CarpetCounter y = Due.with(0, 5, 1, 1, "5x1@0");
        due.is(5, y.cover(0, 0, 0), "the least roll");
        CarpetCounter z = Due.with(0, 60, 999, 99, "60x60+60x60+60x60@0");
        due.is(10800 * 99, z.cover(0, 0, 0), "the greatest room");
        due.is(819, z.rollOf(0, 2), "left");
    }

    /** Of a roll 20 wide only an offcut is kept, with these sides; the other rooms begin with 1. */
    private static CarpetCounter offcut(String sides, String rooms) {
        CarpetCounter x = Due.with(0, 20, 999, 1, sides + "@0;" + rooms);
        x.set(1, 20);
        x.cover(0, 0, 0);
        due.is(1, x.takeUp(0), "takeUp of " + sides);
        due.is(1, x.count(3), "kept");
        return x;
    }

    private static void offcutThatSuffices() {
        due.promise("4, at least as wide and at least as long; it is never turned");
        // the sides of the strip, its source, what the roll gives
        int[][] rows = {{8, 12, 0, 0}, {7, 12, 0, 0}, {8, 11, 0, 0}, {1, 1, 0, 0}, {9, 12, -5, 12}, {8, 13, -5, 13},
            {12, 8, -5, 8}};
        for (int[] row : rows) {
            String strip = row[0] + "x" + row[1];
            CarpetCounter x = offcut("8x12", strip + "@0");
            due.is(row[2] == 0 ? 1 : 0, x.ifCovered(1, 0, 0, 5), "ifCovered of " + strip);
            due.is(row[3], x.ifCovered(1, 0, 0, 4), "what the roll gives for " + strip);
            x.cover(1, 0, 0);
            due.is(row[2], x.strip(1, 0, 2), "the source of " + strip);
        }
        CarpetCounter y = offcut("8x12", "12x8@0;12x8@0");
        y.cover(1, 0, 1);
        due.is(0, y.strip(1, 0, 2), "the source with the way 1");
        y.roll(0, 20, 99, 1);
        y.takeUp(1);
        y.cover(2, 1, 1);
        due.is(-5, y.strip(2, 0, 2), "another roll has no offcut");
    }

    private static void leastOffcut() {
        due.promise("4, the least area, of several the one with the lowest number");
        sources("9x9+8x10@0", "8x9@0", 1);
        sources("8x10+9x9@0", "8x9@0", 0);
        sources("12x6+9x8@0", "9x6@0", 0);
        sources("9x8+12x6@0", "9x6@0", 0);
        sources("9x9+12x6+9x8@0", "9x6@0", 1);
        sources("5x5+12x6+9x8@0", "9x6@0", 1);
        sources("12x6+5x5+9x8@0", "9x7@0", 2);
    }

    private static void sources(String taken, String room, int want) {
        CarpetCounter x = Due.with(0, 20, 999, 1, taken + ";" + room);
        x.set(1, 20);
        x.cover(0, 0, 0);
        x.takeUp(0);
        x.cover(1, 0, 0);
        due.is(want, x.strip(1, 0, 2), "the source for " + room + " of " + taken);
        due.is(-1, x.offcut(want, 0), "it is not kept");
    }

    /** The rests of an offcut that are due: first width and length, second width and length. */
    private static void rests(int rule, String offcut, String strip, int[] want) {
        CarpetCounter x = offcut(offcut, strip + "@0");
        x.set(1, 1);
        x.set(0, rule);
        int waste = x.count(5);
        x.cover(1, 0, 0);
        String call = "the rule " + rule + ", " + strip + " of " + offcut;
        due.is(0, x.strip(1, 0, 2), "the source by " + call);
        due.is(want.length / 2, x.count(3), "kept by " + call);
        for (int i = 0; i < want.length; i++) {
            due.is(want[i], x.offcut(1 + i / 2, 1 + i % 2), "side " + i + " by " + call);
        }
        due.is(waste, x.count(5), "waste by " + call);
    }

    private static void ruleZeroAndOne() {
        due.promise("4, two rests are left, the first one beside it and the second one behind it");
        rests(0, "20x30", "6x8", new int[] {14, 30, 6, 22});
        rests(1, "20x30", "6x8", new int[] {14, 8, 20, 22});
        rests(0, "20x30", "1x1", new int[] {19, 30, 1, 29});
        rests(1, "20x30", "1x1", new int[] {19, 1, 20, 29});
        rests(0, "20x30", "19x29", new int[] {1, 30, 19, 1});
        rests(1, "20x30", "19x29", new int[] {1, 29, 20, 1});
        for (int rule = 0; rule < 3; rule++) {
            rests(rule, "20x30", "20x8", new int[] {20, 22});
            rests(rule, "20x30", "6x30", new int[] {14, 30});
            rests(rule, "20x30", "20x30", new int[] {});
        }
    }

    private static void ruleTwo() {
        due.promise("4, by the rule 2 whose greater rest is greater, of the same the rule 0");
        rests(2, "20x20", "10x10", new int[] {10, 20, 10, 10}); // 200, 200
        rests(2, "20x20", "10x9", new int[] {10, 9, 20, 11}); // 200, 220
        rests(2, "20x20", "9x10", new int[] {11, 20, 9, 10}); // 220, 200
        rests(2, "20x19", "19x18", new int[] {1, 18, 20, 1}); // 19, 20
        rests(2, "19x20", "18x19", new int[] {1, 20, 18, 1}); // 20, 19
        rests(2, "20x20", "19x19", new int[] {1, 20, 19, 1}); // 20, 20
        rests(2, "20x20", "18x2", new int[] {2, 2, 20, 18}); // 324 behind by the rule 0, 360
        rests(2, "20x20", "2x18", new int[] {18, 20, 2, 2}); // 360, 324 beside by the rule 1
        rests(2, "5x40", "4x20", new int[] {1, 20, 5, 20}); // 80, 100
        rests(2, "20x5", "12x4", new int[] {8, 5, 12, 1}); // 40, 32
        // by area, though the rule 1 throws both rests away and the rule 0 but one
        CarpetCounter x = Due.with(0, 30, 15, 1, "30x15@0;20x8@0");
        x.cover(0, 0, 0);
        x.takeUp(0);
        x.set(1, 10);
        x.set(0, 2);
        x.cover(1, 0, 0); // 10 x 15 and 20 x 7, or 10 x 8 and 30 x 7
        due.is(0, x.count(3), "nothing is kept");
        due.is(80 + 210, x.count(5), "waste");
    }

    private static void exactCut() {
        due.promise("4, its area is waste; it can be 0");
        for (int rule = 0; rule < 3; rule++) {
            CarpetCounter x = Due.with(0, 10, 99, 1, "10x9@0;10x9@0");
            x.set(0, rule);
            x.set(1, 1);
            due.is(0, x.ifCovered(0, 0, 0, 3), "ifCovered, waste");
            x.cover(0, 0, 0);
            due.is(0, x.count(4), "no rest of a piece");
            due.is(0, x.count(5), "no waste");
            x.takeUp(0);
            x.cover(1, 0, 0);
            due.is(0, x.strip(1, 0, 2), "the source");
            due.is(1, x.count(4), "no rest of an offcut");
            due.is(0, x.count(5), "no waste");
        }
    }

    /** A piece 40 wide: the rest beside is 40 - width wide and as long as the strip. */
    private static void leastSideOfAPiece() {
        due.promise("4, whose width or length is below the setting 1");
        for (int least = 1; least <= 20; least++) {
            beside(least, 40 - least, 30, true);
            beside(least, 40 - least + 1, 30, false);
            beside(least, 10, least, true);
            if (least > 1) {
                beside(least, 10, least - 1, false);
            }
        }
    }

    private static void beside(int least, int width, int length, boolean isKept) {
        CarpetCounter x = Due.with(0, 40, 99, 1, width + "x" + length + "@0");
        x.set(1, least);
        int area = (40 - width) * length;
        String call = width + " x " + length + " with the least side " + least;
        due.is(isKept ? 0 : area, x.ifCovered(0, 0, 0, 3), "ifCovered, waste of " + call);
        x.cover(0, 0, 0);
        due.is(isKept ? 1 : 0, x.count(3), "kept of " + call);
        due.is(isKept ? area : 0, x.rollOf(0, 5), "area kept of " + call);
        due.is(isKept ? 0 : area, x.rollOf(0, 7), "waste of " + call);
    }

    /** An offcut 30 x 40 of a roll 30 wide; by the rule 0 the rest behind is as wide as the strip. */
    private static void leastSideBehind() {
        due.promise("4, whose width or length is below the setting 1");
        // the least side, the strip, how many are kept, the waste
        int[][] rows = {{3, 30, 37, 1, 0}, {3, 30, 38, 0, 60}, {3, 3, 10, 2, 0}, {3, 2, 10, 1, 60},
            {1, 30, 39, 1, 0}, {1, 1, 10, 2, 0}, {20, 30, 20, 1, 0}, {20, 30, 21, 0, 570}, {20, 10, 20, 1, 200},
            {20, 10, 21, 1, 190}, {20, 11, 20, 0, 760 + 220}};
        for (int[] row : rows) {
            CarpetCounter x = Due.with(0, 30, 40, 1, "30x40@0;" + row[1] + "x" + row[2] + "@0");
            x.cover(0, 0, 0);
            x.takeUp(0);
            x.set(1, row[0]);
            x.cover(1, 0, 0);
            String call = row[1] + " x " + row[2] + " with the least side " + row[0];
            due.is(row[3], x.count(3), "kept of " + call);
            due.is(row[4], x.count(5), "waste of " + call);
        }
    }

    private static void leastSideAtFirst() {
        due.promise("1, the least side of an offcut that is kept is 3 at first");
        CarpetCounter x = Due.with(0, 10, 99, 1, "7x9@0;8x9@0");
        x.cover(0, 0, 0);
        due.is(1, x.count(3), "a rest 3 x 9");
        x.cover(1, 0, 0);
        due.is(1, x.count(3), "a rest 2 x 9");
        due.is(18, x.count(5), "waste");
    }

    private static void seamsAcross() {
        due.promise("4, a seam is across the light if the pile is");
        for (int side = 0; side < 4; side++) {
            for (int way = 0; way < 2; way++) {
                CarpetCounter x = Due.with(0, 6, 99, 1, "7x7@" + side);
                boolean across = side % 2 != way;
                due.is(49 + 7 * 2 * (across ? 3 : 1), x.ifCovered(0, 0, way, 0), "the price " + side + way);
                x.set(4, 1);
                due.is(across ? -12 : 63, x.ifCovered(0, 0, way, 0), "with the light " + side + way);
                due.is(across ? -12 : 63, x.cover(0, 0, way), "cover with the light " + side + way);
            }
        }
        CarpetCounter y = Due.with(0, 6, 99, 1, "6x6@0");
        due.is(36, y.ifCovered(0, 0, 1, 0), "no seam is across");
        y.set(4, 1);
        due.is(-12, y.ifCovered(0, 0, 1, 0), "but the pile is");
    }

    private static void seamPriceAtItsEnds() {
        due.promise("4, by the setting 2, and across the light by the setting 2 times the setting 3");
        // the settings 2 and 3, the price with the light, the price across it
        int[][] rows = {{0, 1, 49, 49}, {0, 9, 49, 49}, {1, 1, 56, 56}, {1, 9, 56, 112}, {99, 1, 742, 742},
            {99, 9, 742, 49 + 7 * 891}, {2, 3, 63, 91}};
        for (int[] row : rows) {
            CarpetCounter x = Due.with(0, 6, 99, 1, "7x7@2");
            x.set(2, row[0]);
            x.set(3, row[1]);
            due.is(row[2], x.ifCovered(0, 0, 0, 0), "with the light, " + row[0] + " by " + row[1]);
            due.is(row[3], x.cover(0, 0, 1), "across the light, " + row[0] + " by " + row[1]);
        }
        CarpetCounter free = Due.with(0, 6, 99, 0, "7x7@2");
        due.is(14, free.cover(0, 0, 0), "a roll without a price");
    }

    /** The order of the cuts: a rest of an earlier strip serves for a later one, not the other way round. */
    private static void piecesOfTheRollFirstOfAll() {
        due.promise("22, also from such as come by the cuts ahead of them");
        CarpetCounter x = Due.with(0, 20, 99, 1, "12x9+8x9@0;8x9+12x9@0;28x9+12x9@0");
        int[][] rows = {{0, 2, 1, 9, 0}, {1, 2, 1, 9, 0}, {2, 3, 1, 18, 9}};
        for (int[] row : rows) {
            due.is(row[1], x.ifCovered(row[0], 0, 0, 1), "strips of the room " + row[0]);
            due.is(row[2], x.ifCovered(row[0], 0, 0, 5), "from offcuts, the room " + row[0]);
            due.is(row[3], x.ifCovered(row[0], 0, 0, 4), "from the roll, the room " + row[0]);
            due.is(row[4], x.ifCovered(row[0], 0, 0, 2), "seams of the room " + row[0]);
        }
        x.cover(0, 0, 0);
        due.is(-5, x.strip(0, 0, 2), "the first one from the roll");
        due.is(0, x.strip(0, 1, 2), "the second one from its rest");
    }

    private static void takeUpWhateverTheSides() {
        due.promise("5, whatever its sides, in their order");
        CarpetCounter x = Due.with(0, 10, 99, 1, "11x1+2x20@0");
        x.set(1, 20);
        x.cover(0, 0, 0);
        due.is(0, x.count(4), "no rest is kept");
        int waste = x.count(5);
        due.is(3, x.takeUp(0), "takeUp");
        int[][] sides = {{10, 1}, {1, 1}, {2, 20}};
        for (int i = 0; i < 3; i++) {
            due.is(sides[i][0], x.offcut(i, 1), "width " + i);
            due.is(sides[i][1], x.offcut(i, 2), "length " + i);
        }
        due.is(waste, x.count(5), "nothing is thrown away");
        due.is(-5, x.takeUp(0), "takeUp again");
        due.is(11 + 40 + 2, x.cover(0, 0, 0), "cover again");
        due.is(-11, x.cover(0, 0, 0), "it is covered");
        due.is(3, x.takeUp(0), "takeUp");
        due.is(20, x.offcut(5, 2), "the offcut 5");
    }

    private static void sellRoundedDown() {
        due.promise("6, divided by 2 and rounded down");
        // sides, the price of a unit, the coins
        int[][] rows = {{1, 1, 0, 0}, {1, 1, 1, 0}, {1, 1, 2, 1}, {1, 1, 3, 1}, {3, 3, 1, 4}, {3, 3, 99, 445},
            {4, 5, 1, 10}, {20, 60, 99, 59400}};
        for (int[] row : rows) {
            CarpetCounter x = Due.with(0, 20, 99, row[2], row[0] + "x" + row[1] + "@0");
            x.set(1, 20);
            x.cover(0, 0, 0);
            int coins = x.count(8);
            x.takeUp(0);
            due.is(row[3], x.sell(0), "sell " + row[0] + " x " + row[1] + " at " + row[2]);
            due.is(coins + row[3], x.count(8), "coins");
            due.is(row[0] * row[1], x.rollOf(0, 8), "sold");
            due.is(-1, x.sell(0), "sell it again");
        }
    }

    /** Kept are offcuts of 1, 2, 2 and 3600 of a roll, and one of 1 of another. */
    private static CarpetCounter pile() {
        CarpetCounter x = Due.with(0, 60, 999, 1, "1x1+2x1+1x2@0;60x60@0;1x1@0");
        x.roll(0, 60, 999, 1);
        x.set(1, 20);
        x.cover(0, 0, 0);
        x.cover(1, 0, 0);
        x.cover(2, 1, 0);
        x.takeUp(0);
        x.takeUp(1);
        x.takeUp(2);
        return x;
    }

    private static void clearBelow() {
        due.promise("7, whose area is below some number");
        int[][] rows = {{1, -5, 0}, {2, 1, 1}, {3, 3, 5}, {3600, 3, 5}, {3601, 4, 3605}, {9999, 4, 3605}};
        for (int[] row : rows) {
            CarpetCounter x = pile();
            int waste = x.rollOf(0, 7);
            due.is(row[1], x.clear(0, row[0]), "clear below " + row[0]);
            due.is(4 - Math.max(0, row[1]), x.rollOf(0, 4), "kept");
            due.is(waste + row[2], x.rollOf(0, 7), "waste");
            due.is(1, x.rollOf(1, 4), "the other roll's");
            due.is(-5, x.clear(0, row[0]), "clear again");
        }
    }
}
