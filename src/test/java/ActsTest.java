/** Promises 1 to 8: a new object, and the acts. */
public final class ActsTest {
    private static final Due due = new Due();

    public static void main(String[] args) {
        newObject();
        roll();
        rooms();
        coverPlainly();
        coverInStrips();
        coverByRules();
        coverFromLeastOffcut();
        coverWithSeams();
        coverRefused();
        coverCrowded();
        coverOffcutsUsedUp();
        takeUp();
        takeUpCrowded();
        sell();
        clear();
        set();
        due.end();
    }

    private static void newObject() {
        due.promise("1");
        CarpetCounter x = new CarpetCounter();
        int[] counts = {0, 0, 0, 0, 0, 0, 0, 0, 0, 0, 0, 0, 3, 2, 3, 0};
        for (int what = 0; what < counts.length; what++) {
            due.is(counts[what], x.count(what), "count(" + what + ")");
        }
        due.is(-1, x.rollOf(0, 0), "rollOf");
        due.is(-1, x.room(0, 0), "room");
        due.is(-1, x.offcut(0, 0), "offcut");
        due.is(-5, x.undo(), "undo");
        due.is(-5, x.restore(), "restore");
    }

    private static void roll() {
        due.promise("2");
        CarpetCounter x = new CarpetCounter();
        String before = Due.told(x);
        int[][] bad = {{-1, 5, 1, 0}, {10, 5, 1, 0}, {0, 4, 1, 0}, {0, 61, 1, 0}, {0, 5, 0, 0},
            {0, 5, 1000, 0}, {0, 5, 1, -1}, {0, 5, 1, 100}, {Integer.MIN_VALUE, 5, 1, 0},
            {0, Integer.MAX_VALUE, 1, 0}, {0, 5, Integer.MIN_VALUE, 0}, {0, 5, 1, Integer.MAX_VALUE}};
        for (int[] b : bad) {
            due.is(-2, x.roll(b[0], b[1], b[2], b[3]), "a bad roll");
        }
        due.same(before, x, "a bad roll");
        for (int i = 0; i < 12; i++) {
            due.is(i, i % 2 == 0 ? x.roll(0, 5, 1, 0) : x.roll(9, 60, 999, 99), "roll " + i);
        }
        due.is(12, x.count(0), "count(0)");
        due.is(4, x.count(9), "count(9)");
        due.is(-3, x.roll(0, 5, 1, 0), "a roll too many");
        due.is(-2, x.roll(0, 4, 1, 0), "a bad roll too many");
        due.is(12, x.count(0), "count(0)");
        due.is(3, x.undo(), "undo");
        due.is(11, x.roll(3, 6, 7, 8), "roll after undo");
        due.is(6, x.rollOf(11, 1), "its width");
    }

    private static void rooms() {
        due.promise("3");
        CarpetCounter x = new CarpetCounter();
        due.is(-100, x.rooms(), "rooms of the empty text");
        due.is(-104, Due.rooms(x, "1x1@4"), "rooms of a side 4");
        due.is(-105, Due.rooms(x, "1x1@0 "), "rooms of a blank");
        due.is(0, x.count(9), "count(9)");
        due.is(3, Due.rooms(x, "1x60@0;2x3+4x5@3;6x7+8x9+10x11@2"), "rooms");
        due.is(32, x.count(10), "the text stays");
        due.is(1, x.count(9), "count(9)");
        due.is(60, x.room(0, 1), "area");
        due.is(26, x.room(1, 1), "area");
        due.is(224, x.room(2, 1), "area");
        due.is(3, x.room(2, 0), "rectangles");
        due.is(3, x.room(1, 2), "side");
        due.is(0, x.room(1, 3), "bare");
        Due.text(x, "1x1@0;1x1@0;1x1@0;1x1@0;1x1@0;1x1@0;1x1@0;1x1@0;1x1@0");
        due.is(9, x.rooms(), "rooms");
        String before = Due.told(x);
        due.is(-3, x.rooms(), "21 rooms");
        due.same(before, x, "rooms");
        due.is(8, Due.rooms(x, "1x1@0;1x1@0;1x1@0;1x1@0;1x1@0;1x1@0;1x1@0;2x2@0"), "20 rooms");
        due.is(4, x.room(19, 1), "the last");
        due.is(-3, Due.rooms(x, "1x1@0"), "one more");
        due.is(-103, Due.rooms(x, "1x1"), "a fault goes ahead of FULL");
        due.is(2, x.undo(), "undo");
        due.is(12, x.count(1), "count(1)");
    }

    private static void coverPlainly() {
        due.promise("4");
        CarpetCounter x = Due.with(1, 10, 100, 3, "7x20@0");
        due.is(420, x.cover(0, 0, 0), "cover");
        due.is(1, x.room(0, 6), "strips");
        due.is(7, x.strip(0, 0, 0), "width");
        due.is(20, x.strip(0, 0, 1), "length");
        due.is(-5, x.strip(0, 0, 2), "source");
        due.is(80, x.rollOf(0, 2), "left");
        due.is(3, x.offcut(0, 1), "rest's width");
        due.is(20, x.offcut(0, 2), "rest's length");
        due.is(420, x.count(8), "coins");
        due.is(3, x.count(9), "states");
        x.undo();
        due.is(0, x.room(0, 3), "bare after undo");
        due.is(420 + 7 * 2 * 3, x.cover(0, 0, 1), "cover across");
        due.is(2, x.room(0, 6), "strips");
        due.is(10, x.strip(0, 0, 0), "width");
        due.is(7, x.strip(0, 1, 1), "length");
        due.is(86, x.rollOf(0, 2), "left");
        due.is(0, x.count(4), "no offcut: rests have no width");
    }

    private static void coverInStrips() {
        due.promise("4");
        CarpetCounter x = Due.with(0, 10, 200, 2, "25x30+4x8@2");
        due.is(2 * (750 + 32) + 2 * 60, x.cover(0, 0, 0), "cover");
        due.is(4, x.room(0, 6), "strips");
        due.is(60, x.room(0, 7), "seams, none between rectangles");
        int[][] strips = {{10, 30, -5}, {10, 30, -5}, {5, 30, -5}, {4, 8, 0}};
        for (int rank = 0; rank < strips.length; rank++) {
            for (int what = 0; what < 3; what++) {
                due.is(strips[rank][what], x.strip(0, rank, what), "strip " + rank + " " + what);
            }
        }
        due.is(110, x.rollOf(0, 2), "left");
        due.is(1, x.count(3), "kept: the offcut 0, 5 x 30, is used");
        due.is(-1, x.offcut(0, 0), "the offcut 0 is cut");
        due.is(4, x.offcut(1, 1), "behind: width");
        due.is(22, x.offcut(1, 2), "behind: length");
        due.is(30, x.rollOf(0, 7), "waste: 1 x 30 beside");
    }

    /** An offcut 20 x 30 is cut for 6 x 8 by each rule; 2 tells the same as another. */
    private static void coverByRules() {
        due.promise("4");
        int[][] rests = {{14, 30, 6, 22}, {14, 8, 20, 22}, {14, 8, 20, 22}};
        for (int rule = 0; rule < 3; rule++) {
            CarpetCounter x = Due.with(0, 20, 30, 1, "20x30@0;6x8@0");
            x.cover(0, 0, 0);
            x.takeUp(0);
            x.set(0, rule);
            due.is(48, x.cover(1, 0, 0), "cover");
            due.is(0, x.strip(1, 0, 2), "from the offcut");
            due.is(rests[rule][0], x.offcut(1, 1), "rule " + rule + " first width");
            due.is(rests[rule][1], x.offcut(1, 2), "rule " + rule + " first length");
            due.is(rests[rule][2], x.offcut(2, 1), "rule " + rule + " second width");
            due.is(rests[rule][3], x.offcut(2, 2), "rule " + rule + " second length");
        }
        // 20 x 20, cut for 5 x 10: 15 x 20 = 300 by the rule 0, 20 x 10 = 200 by the rule 1
        CarpetCounter y = Due.with(0, 20, 20, 1, "20x20@0;5x10@0");
        y.cover(0, 0, 0);
        y.takeUp(0);
        y.set(0, 2);
        y.cover(1, 0, 0);
        due.is(20, y.offcut(1, 2), "rule 2 takes the rule 0");
        // 20 x 20, cut for 10 x 10: 200 by both rules
        CarpetCounter z = Due.with(0, 20, 20, 1, "20x20@0;10x10@0");
        z.cover(0, 0, 0);
        z.takeUp(0);
        z.set(0, 2);
        z.cover(1, 0, 0);
        due.is(20, z.offcut(1, 2), "rule 2 takes the rule 0 of the same");
        due.is(10, z.offcut(2, 1), "rule 2 takes the rule 0 of the same");
        leastSides();
    }

    /** 20 x 30 is cut for 16 x 28: 4 x 30 is left beside, 16 x 2 behind. */
    private static void leastSides() {
        int[][] want = {{1, 2, 0}, {2, 2, 0}, {3, 1, 32}, {4, 1, 32}, {5, 0, 152}};
        for (int[] w : want) {
            CarpetCounter x = Due.with(0, 20, 30, 1, "20x30@0;16x28@0");
            x.cover(0, 0, 0);
            x.takeUp(0);
            x.set(1, w[0]);
            x.cover(1, 0, 0);
            due.is(w[1], x.count(3), "kept with the least side " + w[0]);
            due.is(w[2], x.count(5), "waste with the least side " + w[0]);
        }
    }

    private static void coverFromLeastOffcut() {
        due.promise("4");
        CarpetCounter x = Due.with(0, 20, 300, 1, "9x20@0;8x20@0;10x16@0;8x16@0;8x16@0;8x17@0;1x1@0");
        x.roll(0, 20, 300, 1);
        x.set(1, 20);
        for (int room = 0; room < 3; room++) {
            x.cover(room, 0, 0);
        }
        for (int room = 0; room < 3; room++) {
            due.is(1, x.takeUp(room), "takeUp");
        }
        // kept: 0 is 9 x 20, 1 is 8 x 20, 2 is 10 x 16; 1 and 2 have the same area
        x.cover(3, 1, 0);
        due.is(-5, x.strip(3, 0, 2), "not from another roll's offcut");
        x.cover(4, 0, 0);
        due.is(1, x.strip(4, 0, 2), "the lowest number of the same area");
        x.cover(5, 0, 0);
        due.is(0, x.strip(5, 0, 2), "the one that is long enough");
        x.cover(6, 0, 0);
        due.is(2, x.strip(6, 0, 2), "the last one");
    }

    private static void coverWithSeams() {
        due.promise("4");
        for (int side = 0; side < 4; side++) {
            for (int way = 0; way < 2; way++) {
                CarpetCounter x = Due.with(0, 5, 99, 7, "6x9@" + side);
                x.set(2, 11);
                x.set(3, 4);
                boolean across = (side == 0 || side == 2) ? way == 1 : way == 0;
                int seams = way == 0 ? 9 : 6;
                due.is(54 * 7 + seams * 11 * (across ? 4 : 1), x.cover(0, 0, way), "cover " + side + way);
                due.is(seams, x.room(0, 7), "seams");
                x.undo();
                x.set(4, 1);
                due.is(across ? -12 : 54 * 7 + seams * 11, x.cover(0, 0, way), "with the light");
            }
        }
        CarpetCounter free = Due.with(0, 5, 99, 7, "6x9@0");
        free.set(2, 0);
        due.is(378, free.cover(0, 0, 1), "seams without a price");
    }

    private static void coverRefused() {
        due.promise("4");
        CarpetCounter x = Due.with(0, 10, 20, 2, "10x15@0;10x5@0;10x6@1;25x5@0");
        String before = Due.told(x);
        due.is(-1, x.cover(-1, 0, 0), "room -1");
        due.is(-1, x.cover(4, 0, 0), "room 4");
        due.is(-1, x.cover(0, -1, 0), "roll -1");
        due.is(-1, x.cover(0, 1, 9), "roll 1 goes ahead of the way");
        due.is(-1, x.cover(Integer.MIN_VALUE, Integer.MAX_VALUE, 0), "far numbers");
        due.is(-2, x.cover(0, 0, 2), "way 2");
        due.is(-2, x.cover(0, 0, -1), "way -1");
        due.same(before, x, "cover");
        x.cover(0, 0, 0);
        before = Due.told(x);
        due.is(-11, x.cover(0, 0, 0), "covered");
        due.is(-13, x.cover(2, 0, 0), "too short");
        due.is(-13, x.cover(3, 0, 0), "too short at the second strip");
        due.same(before, x, "cover");
        x.set(4, 1);
        due.is(-11, x.cover(0, 0, 1), "covered goes ahead of the light");
        due.is(-12, x.cover(2, 0, 0), "the light goes ahead of the length");
        due.is(100, x.cover(1, 0, 0), "the rest of the roll suffices");
        due.is(0, x.rollOf(0, 2), "left");
    }

    /** A roll 60 wide: each room 1 x 1 leaves a rest; 60 are kept at most. */
    private static void coverCrowded() {
        due.promise("4");
        CarpetCounter x = crowd();
        due.is(60, x.count(3), "kept");
        int next = x.count(1) - 1;
        String before = Due.told(x);
        due.is(-14, x.ifCovered(next, 1, 0, 0), "a piece with one rest");
        due.is(-14, x.cover(next, 1, 0), "a piece with one rest");
        due.same(before, x, "cover");
        due.is(-14, x.ifCovered(next, 0, 0, 0), "an offcut with two rests");
        x.set(1, 20);
        due.is(4, x.cover(next, 0, 0), "rests that are thrown away");
        due.is(59, x.count(3), "kept");
        x.undo();
        x.undo();
        due.is(60, x.clear(0, 9999), "clear");
        due.is(4, x.cover(next, 1, 0), "room again");
    }

    /** Takes strips up until 60 offcuts are kept, all 5 x 5 of the roll 0. */
    private static CarpetCounter crowd() {
        CarpetCounter x = Due.with(0, 5, 999, 1, "60x5+60x5+60x5@0;60x5+60x5@0;2x2@0");
        x.roll(1, 60, 20, 1);
        x.cover(0, 0, 0);
        x.cover(1, 0, 0);
        due.is(36, x.takeUp(0), "takeUp");
        due.is(24, x.takeUp(1), "takeUp");
        x.set(1, 1);
        return x;
    }

    /** After 300 offcuts no other one can come, though none is kept. */
    private static void coverOffcutsUsedUp() {
        due.promise("4");
        CarpetCounter x = usedUp(2);
        due.is(300, x.count(4), "came");
        due.is(0, x.count(3), "kept");
        due.is(1500, x.count(5), "waste");
        due.is(-14, x.cover(1, 0, 0), "a cover with a rest");
        due.is(180 + 66, x.cover(0, 0, 0), "a cover without rests");
        due.promise("5");
        due.is(0, x.takeUp(0), "takeUp brings none");
        due.is(1680, x.count(5), "all is waste");
        due.is(0, x.room(0, 3), "bare");
        due.is(300, x.count(4), "came");
        due.is(4, x.count(9), "states");
        due.promise("4");
        CarpetCounter y = usedUp(3);
        due.is(298, y.count(4), "came");
        y.cover(4, 0, 0);
        due.is(1, y.takeUp(4), "the offcut 298 is 5 x 9");
        due.is(-14, y.cover(1, 0, 0), "two rests of which one cannot come");
        y.set(1, 2);
        due.is(1, y.cover(1, 0, 0), "one rest");
        due.is(298, y.strip(1, 0, 2), "its source");
        due.is(299, y.sorted(0), "the last offcut");
    }

    /** After 288 offcuts, those of the last room, of which none is kept. */
    private static CarpetCounter usedUp(int last) {
        CarpetCounter x = Due.with(0, 5, 999, 1, "60x1+60x1+60x1@0;1x1@0;60x1@0;50x1@0;5x9@0");
        x.set(1, 1);
        for (int i = 0; i < 9; i++) {
            int room = i < 8 ? 0 : last;
            x.cover(room, 0, 0);
            x.takeUp(room);
            x.clear(0, 9999);
        }
        return x;
    }

    private static void takeUp() {
        due.promise("5");
        CarpetCounter x = Due.with(0, 10, 99, 4, "25x6+1x1@1");
        due.is(-5, x.takeUp(0), "bare");
        due.is(-1, x.takeUp(1), "unknown");
        due.is(-1, x.takeUp(-1), "unknown");
        due.is(2, x.count(9), "states");
        int price = x.cover(0, 0, 0);
        int offcuts = x.count(4);
        int waste = x.count(5);
        due.is(151, x.rollOf(0, 6), "laid");
        due.is(4, x.takeUp(0), "takeUp, whatever the sides");
        int[][] strips = {{10, 6}, {10, 6}, {5, 6}, {1, 1}};
        for (int i = 0; i < 4; i++) {
            due.is(strips[i][0], x.offcut(offcuts + i, 1), "width " + i);
            due.is(strips[i][1], x.offcut(offcuts + i, 2), "length " + i);
            due.is(0, x.offcut(offcuts + i, 0), "roll " + i);
        }
        due.is(0, x.room(0, 3), "bare");
        due.is(-5, x.room(0, 8), "no price");
        due.is(0, x.rollOf(0, 6), "laid");
        due.is(waste, x.count(5), "waste");
        due.is(price, x.count(8), "coins stay");
        due.is(-5, x.strip(0, 0, 0), "no strip");
        due.is(4, x.count(9), "states");
        x.undo();
        due.is(1, x.room(0, 3), "covered after undo");
        due.is(6, x.strip(0, 1, 1), "its strips");
    }

    private static void takeUpCrowded() {
        due.promise("5");
        CarpetCounter x = Due.with(0, 5, 999, 1, "60x5+60x5+60x5@0;60x5+55x6@0;20x3@0");
        x.cover(0, 0, 0);
        x.cover(1, 0, 0);
        x.cover(2, 0, 0);
        due.is(36, x.takeUp(0), "takeUp");
        due.is(23, x.takeUp(1), "takeUp");
        due.is(1, x.takeUp(2), "only one comes");
        due.is(60, x.count(3), "kept");
        due.is(45, x.count(5), "others are waste");
        due.is(0, x.count(6), "laid");
        due.is(3, x.offcut(59, 2), "the first strip came");
    }

    private static void sell() {
        due.promise("6");
        CarpetCounter x = Due.with(0, 10, 99, 3, "7x5@0;5x3@0");
        x.cover(0, 0, 0);
        x.cover(1, 0, 0);
        due.is(-1, x.sell(-1), "unknown");
        due.is(-1, x.sell(9), "unknown");
        int coins = x.count(8);
        due.is(22, x.sell(0), "3 x 5 at 3, by 2");
        due.is(coins + 22, x.count(8), "coins");
        due.is(15, x.rollOf(0, 8), "sold");
        due.is(-1, x.offcut(0, 0), "gone");
        due.is(-1, x.sell(0), "unknown");
        due.is(22, x.sell(1), "5 x 3 at 3, by 2");
        due.is(30, x.rollOf(0, 8), "sold");
        due.is(0, x.count(5), "waste");
        due.is(4, x.count(9), "states");
        x.undo();
        due.is(5, x.offcut(1, 1), "back");
        due.is(15, x.rollOf(0, 8), "sold");
        CarpetCounter free = Due.with(0, 10, 99, 0, "7x5@0");
        free.cover(0, 0, 0);
        due.is(0, free.sell(0), "for nothing");
        due.is(4, free.count(9), "is an act");
    }

    private static void clear() {
        due.promise("7");
        CarpetCounter x = Due.with(0, 10, 99, 3, "7x5@0;6x5@0;5x5@0;7x5@0");
        x.roll(0, 10, 99, 3);
        for (int room = 0; room < 3; room++) {
            x.cover(room, 0, 0);
        }
        x.cover(3, 1, 0);
        // kept: 0 is 15, 1 is 20, 2 is 25 of the roll 0; 3 is 15 of the roll 1
        String before = Due.told(x);
        due.is(-1, x.clear(-1, 5), "unknown");
        due.is(-1, x.clear(2, 0), "unknown goes ahead");
        due.is(-2, x.clear(0, 0), "area 0");
        due.is(-2, x.clear(0, 10000), "area 10000");
        due.is(-5, x.clear(0, 15), "below 15");
        due.same(before, x, "clear");
        due.is(1, x.clear(0, 16), "below 16");
        due.is(15, x.rollOf(0, 7), "waste");
        due.is(0, x.rollOf(1, 7), "waste of the other");
        due.is(1, x.sorted(1), "the order stays");
        due.is(2, x.clear(0, 9999), "the others");
        due.is(60, x.rollOf(0, 7), "waste");
        due.is(1, x.count(3), "kept");
        x.undo();
        due.is(15, x.rollOf(0, 7), "waste after undo");
        due.is(4, x.offcut(1, 1), "back");
        due.is(5, x.offcut(2, 1), "back");
    }

    private static void set() {
        due.promise("8");
        CarpetCounter x = new CarpetCounter();
        int[] least = {0, 1, 0, 1, 0};
        int[] most = {2, 20, 99, 9, 1};
        int[] first = {0, 3, 2, 3, 0};
        for (int which = 0; which < 5; which++) {
            String before = Due.told(x);
            due.is(-2, x.set(which, least[which] - 1), "too low");
            due.is(-2, x.set(which, most[which] + 1), "too high");
            due.is(-5, x.set(which, first[which]), "so already");
            due.same(before, x, "set");
            due.is(first[which], x.set(which, most[which]), "set");
            due.is(most[which], x.count(11 + which), "count");
            due.is(most[which], x.set(which, least[which]), "set");
            due.is(least[which], x.count(11 + which), "count");
            x.undo();
            due.is(most[which], x.count(11 + which), "after undo");
        }
        due.is(-2, x.set(-1, 1), "which");
        due.is(-2, x.set(5, 1), "which");
        due.is(-2, x.set(Integer.MAX_VALUE, 1), "which");
    }
}
