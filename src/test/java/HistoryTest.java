/** Promises 12 to 14: undo and the snapshot. */
public final class HistoryTest {
    private static final Due due = new Due();

    public static void main(String[] args) {
        undo();
        undoAfterDrops();
        keep();
        restore();
        wholeState();
        due.end();
    }

    private static void undo() {
        due.promise("12");
        CarpetCounter x = new CarpetCounter();
        due.is(-5, x.undo(), "empty");
        String empty = Due.told(x);
        x.roll(0, 10, 50, 1);
        x.roll(0, 4, 50, 1);
        x.undo();
        due.same(empty, x, "roll and undo");
        due.is(-5, x.undo(), "empty again");
        Due.text(x, "3x3@0");
        x.roll(0, 10, 50, 1);
        x.rooms();
        x.cover(0, 0, 0);
        x.takeUp(0);
        due.is(4, x.count(9), "states");
        x.type(';');
        x.fault();
        x.keep();
        due.is(4, x.count(9), "these are no acts");
        due.is(3, x.undo(), "undo takeUp");
        due.is(1, x.room(0, 3), "covered");
        due.is(6, x.count(10), "the text is no part of the state");
        due.is(2, x.undo(), "undo cover");
        due.is(50, x.rollOf(0, 2), "left");
        due.is(0, x.count(4), "offcuts so far");
        due.is(0, x.count(8), "coins");
        due.is(1, x.undo(), "undo rooms");
        due.is(0, x.count(1), "rooms");
        due.is(0, x.undo(), "undo roll");
        due.is(-5, x.undo(), "empty");
        due.is(1, x.restore(), "the snapshot is no part of the state");
        due.is(1, x.rollOf(0, 4) == 2 ? 1 : 0, "its offcuts");
    }

    private static void undoAfterDrops() {
        due.promise("12");
        CarpetCounter x = new CarpetCounter();
        for (int price = 10; price < 17; price++) {
            x.set(2, price);
        }
        due.is(4, x.count(9), "states");
        due.is(3, x.undo(), "undo");
        due.is(15, x.count(13), "setting");
        x.set(2, 50);
        x.set(2, 51);
        due.is(4, x.count(9), "states");
        int[] before = {50, 15, 14, 13};
        for (int i = 0; i < 4; i++) {
            due.is(3 - i, x.undo(), "undo");
            due.is(before[i], x.count(13), "setting");
        }
        due.is(-5, x.undo(), "empty");
        due.is(13, x.count(13), "setting");
    }

    private static void keep() {
        due.promise("13");
        CarpetCounter x = new CarpetCounter();
        due.is(0, x.keep(), "keep");
        due.is(0, x.count(9), "no act");
        Due.rooms(x, "1x1@0;2x2@0");
        due.is(2, x.keep(), "keep");
        Due.rooms(x, "3x3@0");
        due.is(2, x.restore(), "the later snapshot");
    }

    private static void restore() {
        due.promise("14");
        CarpetCounter x = Due.with(0, 10, 50, 1, "3x3@0;5x5@1");
        String before = Due.told(x);
        due.is(-5, x.restore(), "no snapshot");
        due.same(before, x, "restore");
        x.cover(0, 0, 0);
        x.keep();
        x.cover(1, 0, 0);
        x.set(1, 9);
        Due.rooms(x, "1x1@0");
        due.is(4, x.count(9), "states");
        due.is(2, x.restore(), "restore");
        due.is(4, x.count(9), "states");
        due.is(0, x.room(1, 3), "bare");
        due.is(1, x.room(0, 3), "covered");
        due.is(3, x.count(12), "setting");
        due.is(5, x.count(10), "the text stays");
        due.is(3, x.undo(), "undo restore");
        due.is(3, x.count(1), "rooms");
        due.is(9, x.count(12), "setting");
        x.takeUp(0);
        due.is(2, x.restore(), "the snapshot stays");
        due.is(1, x.room(0, 3), "covered");
        x.sell(0);
        due.is(2, x.restore(), "the snapshot stays");
        due.is(0, x.offcut(0, 0), "its offcut");
    }

    /** Rolls, rooms and offcuts of the same numbers but with other sides take the place of those kept. */
    private static void wholeState() {
        due.promise("12 to 14, a state is everything but the text, the history and the snapshot");
        CarpetCounter x = new CarpetCounter();
        lived(x, 1, 10, 100, 5, "7x20@0;8x10@0;16x6@1");
        String first = Due.told(x);
        x.keep();
        for (int i = 0; i < 4; i++) {
            x.undo();
        }
        lived(x, 2, 12, 60, 7, "7x9+4x4@3;8x13@2;5x5+3x4@0;60x60@1");
        String second = Due.toldButHistory(x);
        due.is(2, x.rollOf(0, 0), "its kind");
        due.is(12, x.rollOf(0, 1), "its width");
        due.is(51, x.rollOf(0, 2), "its length");
        due.is(7, x.rollOf(0, 3), "its price");
        due.is(79, x.rollOf(0, 6), "its strips");
        due.is(720, x.rollOf(0, 9), "its area");
        x.restore();
        Due.text(x, "7x20@0;8x10@0;16x6@1");
        due.same(first, x, "restore");
        due.is(3, x.undo(), "undo");
        Due.text(x, "7x9+4x4@3;8x13@2;5x5+3x4@0;60x60@1");
        due.sameTold(second, Due.toldButHistory(x), "undo of restore");
    }

    /** Four acts, of which the last one covers the room 0. */
    private static void lived(CarpetCounter x, int kind, int width, int length, int price, String rooms) {
        x.roll(kind, width, length, price);
        x.set(3, kind + 4);
        Due.rooms(x, rooms);
        x.cover(0, 0, 0);
        due.is(4, x.count(9), "states");
    }
}
