import java.util.function.Supplier;

/**
 * Every call with all combinations of numbers that lie at some edge, or far from all: none
 * throws, and each answers as the model does. Acts are undone, so that the state stays.
 */
public final class ExtremesTest {
    private static final Due due = new Due();
    private static final int[] NUMBERS = {Integer.MIN_VALUE, Integer.MIN_VALUE + 11, -65536, -6, -5, -1, 0, 1, 2, 3, 4,
        5, 6, 8, 9, 10, 11, 12, 15, 16, 19, 20, 21, 36, 59, 60, 61, 99, 100, 256, 300, 999, 1000, 9999, 10000,
        Integer.MAX_VALUE - 36, Integer.MAX_VALUE};
    private static final int[] FEW = {Integer.MIN_VALUE, -5, -1, 0, 1, 5, 6, 60, 99, 100, Integer.MAX_VALUE};

    public static void main(String[] args) {
        put("of a new object", Both::new);
        put("of one with rolls and rooms", ExtremesTest::some);
        put("of a full one", ExtremesTest::full);
        due.end();
    }

    /** A counter and the model, which are given the same calls. */
    private static final class Both {
        final CarpetCounter x = new CarpetCounter();
        final Model m = new Model();

        void roll(int kind, int width, int length, int price) {
            due.is(m.roll(kind, width, length, price), x.roll(kind, width, length, price), "roll");
        }

        void rooms(String text) {
            due.is(m.clearText(), x.clearText(), "clearText");
            for (char c : text.toCharArray()) {
                due.is(m.type(c), x.type(c), "type");
            }
            due.is(m.rooms(), x.rooms(), "rooms");
        }

        void cover(int room, int roll, int way) {
            due.is(m.cover(room, roll, way), x.cover(room, roll, way), "cover");
        }

        void takeUp(int room) {
            due.is(m.takeUp(room), x.takeUp(room), "takeUp");
        }

        /** What follows must not change the state. */
        void act(int want, int got, String call) {
            due.is(want, got, call);
            due.is(m.count(9), x.count(9), "states after " + call);
            if (want >= 0) {
                due.is(m.undo(), x.undo(), "undo of " + call);
            }
        }
    }

    private static Both some() {
        Both b = new Both();
        b.roll(0, 10, 100, 5);
        b.roll(9, 12, 50, 2);
        b.rooms("7x20@0;8x10@0;16x6@1;3x3@2");
        b.cover(0, 0, 0);
        b.cover(2, 1, 0);
        return b;
    }

    /** 12 rolls, 20 rooms, 60 characters, 60 offcuts that are kept. */
    private static Both full() {
        Both b = new Both();
        b.roll(0, 5, 999, 99);
        for (int i = 1; i < 12; i++) {
            b.roll(i % 10, 5 + i, 500, i);
        }
        b.rooms("60x5+60x5+60x5@0;60x5+60x5@0;60x4@1;8x9@2");
        b.cover(0, 0, 0);
        b.cover(1, 0, 0);
        b.takeUp(0);
        b.takeUp(1);
        b.rooms("1x1@0;2x2@1;3x3@2;4x4@3;5x5@0;6x6@1");
        b.rooms("10x1@0;1x1@0;1x1@0;1x1@0;1x1@0;1x1@0;1x1@0;1x1@0;1x1@0;1x1@0");
        b.cover(2, 5, 0);
        due.is(60, b.x.count(3), "kept");
        due.is(1, b.x.count(2), "covered");
        due.is(20, b.x.count(1), "rooms");
        return b;
    }

    private static void put(String whose, Supplier<Both> made) {
        due.promise("2 to 25, " + whose);
        Both b = made.get();
        String told = Due.toldButHistory(b.x);
        for (int i : NUMBERS) {
            one(b, i);
            for (int j : NUMBERS) {
                two(b, i, j);
                for (int k : NUMBERS) {
                    three(b, i, j, k);
                    for (int l : FEW) {
                        four(b, i, j, k, l);
                    }
                }
            }
        }
        // acts that were undone have used the history up
        due.sameTold(told, Due.toldButHistory(b.x), "something");
    }

    private static void one(Both b, int i) {
        b.act(b.m.takeUp(i), b.x.takeUp(i), "takeUp");
        b.act(b.m.sell(i), b.x.sell(i), "sell");
        due.is(b.m.sorted(i), b.x.sorted(i), "sorted");
        due.is(b.m.count(i), b.x.count(i), "count");
        due.isDouble(b.m.wasted(i), b.x.wasted(i), "wasted");
        due.is(b.m.suits(i), b.x.suits(i), "suits");
    }

    private static void two(Both b, int i, int j) {
        b.act(b.m.clear(i, j), b.x.clear(i, j), "clear");
        b.act(b.m.set(i, j), b.x.set(i, j), "set");
        due.is(b.m.rollOf(i, j), b.x.rollOf(i, j), "rollOf");
        due.is(b.m.offcut(i, j), b.x.offcut(i, j), "offcut");
        due.is(b.m.room(i, j), b.x.room(i, j), "room");
        due.is(b.m.coverAll(i, j), b.x.coverAll(i, j), "coverAll");
    }

    private static void three(Both b, int i, int j, int k) {
        b.act(b.m.cover(i, j, k), b.x.cover(i, j, k), "cover");
        due.is(b.m.strip(i, j, k), b.x.strip(i, j, k), "strip");
        due.is(b.m.best(i, j, k), b.x.best(i, j, k), "best");
    }

    private static void four(Both b, int i, int j, int k, int l) {
        b.act(b.m.roll(i, j, k, l), b.x.roll(i, j, k, l), "roll");
        due.is(b.m.ifCovered(i, j, k, l), b.x.ifCovered(i, j, k, l), "ifCovered");
    }
}
