/** Promises 15 to 21: what is told. */
public final class ToldTest {
    private static final Due due = new Due();

    public static void main(String[] args) {
        rollOf();
        offcut();
        sorted();
        room();
        strip();
        count();
        wasted();
        coveringAfterUndo();
        rollsWithoutRooms();
        due.end();
    }

    /** Two rolls; 7 x 20 and 8 x 10 from the first one, 6 x 6 from the second one. */
    private static CarpetCounter some() {
        CarpetCounter x = Due.with(3, 10, 100, 5, "7x20@0;8x10@0;6x6@1");
        x.roll(4, 12, 50, 2);
        x.cover(0, 0, 0); // the offcut 0: 3 x 20
        x.cover(1, 0, 0); // 2 x 10 is waste
        x.cover(2, 1, 1); // the offcut 1: 6 x 6
        return x;
    }

    private static void rollOf() {
        due.promise("15");
        CarpetCounter x = some();
        int[] first = {3, 10, 70, 5, 1, 60, 220, 20, 0, 1000};
        int[] second = {4, 12, 44, 2, 1, 36, 36, 0, 0, 600};
        for (int what = 0; what < 10; what++) {
            due.is(first[what], x.rollOf(0, what), "rollOf(0, " + what + ")");
            due.is(second[what], x.rollOf(1, what), "rollOf(1, " + what + ")");
        }
        x.sell(0);
        due.is(60, x.rollOf(0, 8), "sold");
        due.is(0, x.rollOf(0, 4), "offcuts");
        due.is(0, x.rollOf(0, 5), "their area");
        due.is(-1, x.rollOf(2, 0), "unknown");
        due.is(-1, x.rollOf(-1, 10), "unknown goes ahead");
        due.is(-2, x.rollOf(0, 10), "what");
        due.is(-2, x.rollOf(0, -1), "what");
    }

    private static void offcut() {
        due.promise("16");
        CarpetCounter x = some();
        int[] first = {0, 3, 20};
        int[] second = {1, 6, 6};
        for (int what = 0; what < 3; what++) {
            due.is(first[what], x.offcut(0, what), "offcut(0, " + what + ")");
            due.is(second[what], x.offcut(1, what), "offcut(1, " + what + ")");
        }
        due.is(-1, x.offcut(2, 0), "unknown");
        due.is(-1, x.offcut(-5, 3), "unknown goes ahead");
        due.is(-2, x.offcut(1, 3), "what");
        due.is(-2, x.offcut(1, -1), "what");
        x.sell(0);
        due.is(-1, x.offcut(0, 0), "sold");
        due.is(6, x.offcut(1, 1), "the other one stays");
    }

    private static void sorted() {
        due.promise("17");
        CarpetCounter x = some();
        due.is(1, x.sorted(0), "sorted(0)");
        due.is(0, x.sorted(1), "sorted(1)");
        due.is(-5, x.sorted(2), "sorted(2)");
        due.is(-5, x.sorted(Integer.MAX_VALUE), "sorted");
        due.is(-2, x.sorted(-1), "sorted(-1)");
        due.is(-2, x.sorted(Integer.MIN_VALUE), "sorted");
        CarpetCounter y = Due.with(0, 10, 99, 1, "10x4+10x3+5x8@1;10x3@1");
        y.set(1, 20);
        y.cover(0, 0, 0);
        y.cover(1, 0, 0);
        y.takeUp(0);
        y.takeUp(1); // 40, 30, 40, 30
        int[] order = {1, 3, 0, 2};
        for (int rank = 0; rank < 4; rank++) {
            due.is(order[rank], y.sorted(rank), "sorted(" + rank + ")");
        }
        due.is(-5, new CarpetCounter().sorted(0), "none");
    }

    private static void room() {
        due.promise("18");
        CarpetCounter x = Due.with(0, 60, 99, 1, "25x30+4x8@2;3x3@3");
        x.roll(0, 10, 200, 2);
        x.cover(0, 1, 1);
        // with the way 1: strips 25 long, 30 wide in three; 4 long, 8 wide in one
        int[] want = {2, 782, 2, 1, 1, 1, 4, 50, 2 * 782 + 50 * 6};
        int[] bare = {1, 9, 3, 0, -5, -5, -5, -5, -5};
        for (int what = 0; what < 9; what++) {
            due.is(want[what], x.room(0, what), "room(0, " + what + ")");
            due.is(bare[what], x.room(1, what), "room(1, " + what + ")");
        }
        x.set(2, 99);
        due.is(1864, x.room(0, 8), "the price that was told");
        due.is(-1, x.room(2, 0), "unknown");
        due.is(-1, x.room(-1, 9), "unknown goes ahead");
        due.is(-2, x.room(0, 9), "what");
        due.is(-2, x.room(1, -1), "what");
    }

    private static void strip() {
        due.promise("19");
        CarpetCounter x = Due.with(0, 10, 200, 2, "25x30+4x8@2;3x3@3");
        due.is(-5, x.strip(0, 0, 0), "bare");
        x.cover(0, 0, 1);
        int[][] strips = {{10, 25, -5}, {10, 25, -5}, {10, 25, -5}, {8, 4, -5}};
        for (int rank = 0; rank < 4; rank++) {
            for (int what = 0; what < 3; what++) {
                due.is(strips[rank][what], x.strip(0, rank, what), "strip " + rank + " " + what);
            }
        }
        due.is(-5, x.strip(0, 4, 0), "rank 4");
        due.is(-5, x.strip(0, Integer.MAX_VALUE, 2), "rank");
        due.is(-2, x.strip(0, -1, 0), "rank -1");
        due.is(-2, x.strip(0, 9, 3), "what goes ahead");
        due.is(-2, x.strip(1, 0, -1), "what goes ahead");
        due.is(-1, x.strip(2, -1, 0), "unknown goes ahead");
        due.is(-5, x.strip(1, 0, 2), "bare");
        CarpetCounter y = Due.with(0, 5, 999, 1, "60x1+60x2+60x3@0");
        y.cover(0, 0, 0);
        due.is(36, y.room(0, 6), "strips");
        due.is(3, y.strip(0, 35, 1), "the last");
        due.is(5, y.strip(0, 35, 0), "the last");
        due.is(-5, y.strip(0, 36, 0), "one more");
    }

    private static void count() {
        due.promise("20");
        CarpetCounter x = some();
        x.set(0, 1);
        x.set(3, 7);
        int coins = 5 * 220 + 2 * 36;
        int[] want = {2, 3, 3, 2, 2, 20, 256, 256, coins, 4, 19, 1, 3, 2, 7, 0};
        for (int what = 0; what < want.length; what++) {
            due.is(want[what], x.count(what), "count(" + what + ")");
        }
        due.is(-2, x.count(16), "count(16)");
        due.is(-2, x.count(-1), "count(-1)");
        due.is(-2, x.count(Integer.MIN_VALUE), "count");
        due.is(-2, x.count(Integer.MAX_VALUE), "count");
        x.takeUp(1);
        due.is(2, x.count(2), "covered");
        due.is(176, x.count(6), "by rolls");
        due.is(176, x.count(7), "by rooms");
        due.is(coins, x.count(8), "coins");
        x.sell(0);
        due.is(coins + 150, x.count(8), "coins");
    }

    private static void wasted() {
        due.promise("21");
        CarpetCounter x = some();
        due.isDouble(0.02, x.wasted(0), "wasted(0)");
        due.isDouble(0.0, x.wasted(1), "wasted(1)");
        due.isDouble(-1.0, x.wasted(2), "wasted(2)");
        due.isDouble(-1.0, x.wasted(-1), "wasted(-1)");
        due.isDouble(-1.0, x.wasted(12), "wasted(12)");
        x.clear(1, 9999);
        due.isDouble(36.0 / 600.0, x.wasted(1), "wasted(1)");
        x.clear(0, 9999);
        due.isDouble(0.08, x.wasted(0), "wasted(0)");
    }

    /** A room is covered one way, then another way, and then that is undone. */
    private static void coveringAfterUndo() {
        due.promise("18, 19");
        for (int roll = 0; roll < 3; roll++) {
            for (int way = 0; way < 2; way++) {
                CarpetCounter x = Due.with(0, 10, 99, 1, "6x8@0;6x8@0");
                x.roll(0, 12, 99, 1);
                x.roll(0, 14, 99, 1);
                x.set(1, 20);
                x.cover(1, roll, way);
                x.takeUp(1); // the offcut 0
                x.cover(0, roll, way);
                x.takeUp(0); // the offcut 1
                x.cover(0, (roll + 1) % 3, 1 - way);
                due.is((roll + 1) % 3, x.room(0, 4), "the roll");
                due.is(1 - way, x.room(0, 5), "the way");
                due.is(-5, x.strip(0, 0, 2), "the source");
                x.undo();
                due.is(-5, x.room(0, 4), "the roll of a bare room");
                x.undo();
                due.is(roll, x.room(0, 4), "the roll after undo");
                due.is(way, x.room(0, 5), "the way after undo");
                due.is(0, x.strip(0, 0, 2), "the source after undo");
            }
        }
    }

    private static void rollsWithoutRooms() {
        due.promise("7, 15, 21, 22");
        CarpetCounter x = Due.with(0, 10, 99, 1, "9x8@0;9x7@0;11x9@0");
        x.cover(0, 0, 0);
        x.roll(0, 11, 99, 1);
        due.is(-5, x.clear(1, 9999), "clear of a new roll");
        due.isDouble(0.0, x.wasted(1), "wasted of a new roll");
        due.is(0, x.rollOf(1, 7), "the waste of a new roll");
        due.is(2 * 7, x.ifCovered(1, 1, 0, 3), "the waste from the new roll");
        due.is(7, x.ifCovered(1, 0, 0, 3), "the waste from the old one");
        x.cover(1, 1, 0);
        due.is(2 * 11, x.ifCovered(2, 1, 1, 3), "the waste from the new roll with the way 1");
        CarpetCounter none = new CarpetCounter();
        none.roll(0, 10, 99, 1);
        none.roll(0, 10, 99, 1);
        due.isDouble(0.0, none.wasted(0), "wasted without rooms");
        due.isDouble(0.0, none.wasted(1), "wasted without rooms");
    }
}
