/** What is empty, what is one short of full, what is full, and what refuses one more. */
public final class LimitsTest {
    private static final Due due = new Due();

    public static void main(String[] args) {
        twelveRolls();
        rollsEver();
        twentyRooms();
        roomsAllOrNone();
        sixtyKeptByCover();
        sixtyKeptAtTheEndOfEachCut();
        sixtyKeptByTakeUp();
        sixtyKeptAndOneGoes();
        threeHundredByCover();
        threeHundredByTakeUp();
        offcutNumbers();
        sixtyCharacters();
        fourStates();
        oldestStateDropped();
        noSnapshot();
        nothingToTell();
        fiveHundredAndTwelveCalls();
        due.end();
    }

    private static void twelveRolls() {
        due.promise("2, at most 12 rolls ever, numbered from 0 in the order in which they came");
        CarpetCounter x = new CarpetCounter();
        for (int i = 0; i < 12; i++) {
            due.is(i, x.count(0), "count(0)");
            due.is(-1, x.rollOf(i, 1), "the width of a roll to come");
            due.is(i, x.roll(9, 5 + i, 1 + i, i), "roll");
            due.is(5 + i, x.rollOf(i, 1), "its width");
        }
        due.is(-3, x.roll(9, 5, 1, 0), "the roll 12");
        due.is(12, x.count(0), "count(0)");
        due.is(-1, x.rollOf(12, 1), "the roll 12");
        due.is(5, x.rollOf(0, 1), "the first one stays");
    }

    /** A roll of which nothing is left counts on; one that undo took away does not. */
    private static void rollsEver() {
        due.promise("2, at most 12 rolls ever");
        CarpetCounter x = Due.with(0, 5, 5, 1, "5x5@0");
        for (int i = 1; i < 12; i++) {
            x.roll(0, 5, 5, 1);
        }
        due.is(25, x.cover(0, 0, 0), "cover");
        due.is(0, x.rollOf(0, 2), "left");
        due.is(-3, x.roll(0, 5, 5, 1), "a roll more");
        x.undo();
        x.undo();
        due.is(11, x.roll(7, 8, 9, 10), "a roll after undo");
        due.is(7, x.rollOf(11, 0), "its kind");
        due.is(-3, x.roll(0, 5, 5, 1), "a roll more");
    }

    private static void twentyRooms() {
        due.promise("3, at most 20 rooms ever, FULL if there would be more than 20");
        CarpetCounter x = new CarpetCounter();
        Due.text(x, "1x1@0;1x1@0;1x1@0;1x1@0;1x1@0;1x1@0;1x1@0;1x1@0;1x1@0;2x1@0");
        due.is(10, x.rooms(), "rooms");
        due.is(9, Due.rooms(x, "1x1@0;1x1@0;1x1@0;1x1@0;1x1@0;1x1@0;1x1@0;1x1@0;1x1@0"), "rooms");
        due.is(19, x.count(1), "count(1)");
        due.is(-3, Due.rooms(x, "3x1@0;4x1@0"), "19 and 2");
        due.is(19, x.count(1), "count(1)");
        due.is(-1, x.room(19, 0), "none of them came");
        due.is(1, Due.rooms(x, "5x1@3"), "19 and 1");
        due.is(5, x.room(19, 1), "the last one");
        due.is(2, x.room(9, 1), "the tenth one");
        due.is(-3, x.rooms(), "20 and 1");
        due.is(-1, x.room(20, 0), "the room 20");
        due.is(20, x.count(1), "count(1)");
        x.undo();
        due.is(-1, x.room(19, 0), "after undo");
        due.is(1, x.rooms(), "19 and 1 after undo");
    }

    private static void roomsAllOrNone() {
        due.promise("3");
        CarpetCounter x = new CarpetCounter();
        due.is(1, Due.rooms(x, "1x1@0"), "one room");
        Due.text(x, "1x1@0;1x1@0;1x1@0;1x1@0;1x1@0;1x1@0;1x1@0;1x1@0;1x1@0;2x1@0");
        due.is(10, x.rooms(), "rooms");
        due.is(-3, x.rooms(), "11 and 10");
        due.is(11, x.count(1), "count(1)");
        due.is(59, x.count(10), "the text stays");
        due.is(-5, x.fault(), "without a fault");
    }

    /** From the roll 1 a piece 59 wide leaves a rest 1 x 1, from an offcut 2 x 2 leaves two rests. */
    private static void sixtyKeptByCover() {
        due.promise("4, at most 60 offcuts are kept at a time");
        String rooms = "60x1@0;59x1@0;5x5@0;2x5@0;2x2@0";
        int[][] full = {{2, 1, 60, 60}, {3, 1, -14, 60}, {4, 0, 25, 59}, {5, 0, 10, 60}, {6, 0, -14, 60}};
        crowded(60, rooms, full);
        int[][] oneShort = {{2, 1, 60, 59}, {3, 1, 59, 60}, {4, 0, 25, 58}, {5, 0, 10, 59}, {6, 0, 4, 60}};
        crowded(59, rooms, oneShort);
        CarpetCounter x = Crowd.kept(60, rooms);
        x.set(1, 2);
        due.is(59, x.cover(3, 1, 0), "a rest that is thrown away");
        due.is(60, x.count(3), "kept");
    }

    /** Each row: the room, the roll, the answer, how many are kept then. */
    private static void crowded(int kept, String rooms, int[][] rows) {
        for (int[] row : rows) {
            CarpetCounter x = Crowd.kept(kept, rooms);
            due.is(kept, x.count(3), "kept before");
            due.is(row[2], x.ifCovered(row[0], row[1], 0, 0), "ifCovered of the room " + row[0] + " at " + kept);
            due.is(row[2], x.cover(row[0], row[1], 0), "cover of the room " + row[0] + " at " + kept);
            due.is(row[3], x.count(3), "kept after the room " + row[0] + " at " + kept);
        }
    }

    private static void sixtyKeptAtTheEndOfEachCut() {
        due.promise("4, more than 60 offcuts would be kept at the end of a cut");
        // the second strip would be the rest of the first one
        int[][] full = {{2, 1, -14, 60}};
        crowded(60, "59x1+1x1@0", full);
        int[][] oneShort = {{2, 1, 60, 59}};
        crowded(59, "59x1+1x1@0", oneShort);
        // the cut of an offcut 5 x 5 without rests makes room for the rest of the next cut
        int[][] after = {{2, 0, 29, 60}, {3, 0, -14, 60}};
        crowded(60, "5x5+2x2@0;2x2+5x5@0", after);
    }

    private static void sixtyKeptByTakeUp() {
        due.promise("5, as long as 60 are not kept");
        for (int kept = 58; kept <= 60; kept++) {
            CarpetCounter x = Crowd.kept(kept, "60x3+60x4+60x2@0");
            x.cover(2, 1, 0);
            due.is(kept, x.count(3), "kept");
            int come = 60 - kept;
            due.is(come, x.takeUp(2), "takeUp at " + kept);
            due.is(60, x.count(3), "kept");
            due.is(60 + come, x.count(4), "came");
            due.is(540 - (come > 0 ? 180 : 0) - (come > 1 ? 240 : 0), x.rollOf(1, 7), "the others are waste");
            due.is(come > 0 ? 3 : -1, x.offcut(60, 2), "the first strip");
            due.is(come > 1 ? 4 : -1, x.offcut(61, 2), "the second strip");
            due.is(0, x.rollOf(1, 6), "nothing lies in rooms");
            due.is(0, x.room(2, 3), "bare");
        }
        CarpetCounter y = Crowd.kept(57, "60x3+60x4+60x2@0");
        y.cover(2, 1, 0);
        due.is(3, y.takeUp(2), "takeUp at 57");
        due.is(0, y.count(5), "no waste");
    }

    /** What is gone is told, sorted and cut no more, also when 60 were kept. */
    private static void sixtyKeptAndOneGoes() {
        due.promise("15 to 17, at most 60 offcuts are kept at a time");
        CarpetCounter x = Due.with(0, 5, 999, 1, "60x5+60x5+60x5@0;60x5+55x5+4x4@0;4x4@0;5x5@0");
        x.set(1, 20);
        x.cover(0, 0, 0);
        x.cover(1, 0, 0);
        x.takeUp(0);
        x.takeUp(1); // 59 are 5 x 5, the last one 4 x 4
        due.is(60, x.rollOf(0, 4), "kept");
        due.is(59 * 25 + 16, x.rollOf(0, 5), "their area");
        due.is(59, x.sorted(0), "the least one");
        due.is(58, x.sorted(59), "the greatest one");
        due.is(-5, x.sorted(60), "the rank 60");
        due.is(12, x.sell(0), "sell the first one");
        due.is(4, x.offcut(59, 1), "the last one stays");
        due.is(5, x.offcut(58, 1), "so does the one before it");
        due.is(5, x.offcut(1, 2), "so does the second one");
        due.is(-1, x.offcut(0, 1), "the first one is gone");
        due.is(59, x.rollOf(0, 4), "kept");
        x.undo();
        due.is(60, x.rollOf(0, 4), "kept after undo");
        due.is(8, x.sell(59), "sell the last one");
        due.is(59, x.rollOf(0, 4), "kept");
        due.is(59 * 25, x.rollOf(0, 5), "their area");
        due.is(0, x.sorted(0), "the least one");
        due.is(-5, x.sorted(59), "the rank 59");
        due.is(-1, x.offcut(59, 1), "it is gone");
        due.is(-5, x.clear(0, 25), "it is not cleared");
        due.is(9, x.ifCovered(2, 0, 0, 3), "it is not cut, but a greater one");
        due.is(59, x.clear(0, 26), "clear");
        due.is(0, x.rollOf(0, 4), "kept");
        due.is(0, x.rollOf(0, 5), "their area");
        due.is(-5, x.sorted(0), "the rank 0");
        due.is(5, x.ifCovered(3, 0, 0, 4), "the roll gives again");
    }

    /** The roll 1 is 20 wide: a room 19 x 2 leaves one rest, and from an offcut two or less. */
    private static void threeHundredByCover() {
        due.promise("4, more than 300 would have come");
        String rooms = "20x2@0;19x2@0;9x2+9x2@0";
        int[][] full = {{2, 40, 300}, {3, -14, 300}, {4, -14, 300}};
        usedUp(300, rooms, full);
        int[][] oneShort = {{2, 40, 299}, {3, 38, 300}, {4, -14, 299}};
        usedUp(299, rooms, oneShort);
        int[][] twoShort = {{2, 40, 298}, {3, 38, 299}, {4, 36, 300}};
        usedUp(298, rooms, twoShort);
        CarpetCounter x = Crowd.came(300, rooms);
        x.set(1, 2);
        due.is(38, x.cover(3, 1, 0), "a rest that is thrown away");
        twoRests(297, 13, 2);
        twoRests(298, -14, 1);
        twoRests(299, -14, 1);
    }

    /** Each row: the room, the answer, how many came then. */
    private static void usedUp(int came, String rooms, int[][] rows) {
        for (int[] row : rows) {
            CarpetCounter x = Crowd.came(came, rooms);
            due.is(came, x.count(4), "came before");
            due.is(0, x.count(3), "kept before");
            due.is(row[1], x.ifCovered(row[0], 1, 0, 0), "ifCovered of the room " + row[0] + " at " + came);
            due.is(row[1], x.cover(row[0], 1, 0), "cover of the room " + row[0] + " at " + came);
            due.is(row[2], x.count(4), "came after the room " + row[0] + " at " + came);
        }
    }

    /** One more comes, 20 x 5, which is then cut for 13 x 1: that leaves two rests. */
    private static void twoRests(int came, int want, int kept) {
        CarpetCounter x = Crowd.came(came, "20x5@0;13x1@0");
        x.cover(2, 1, 0);
        due.is(1, x.takeUp(2), "takeUp at " + came);
        due.is(want, x.cover(3, 1, 0), "two rests when " + (came + 1) + " came");
        due.is(kept, x.count(3), "kept");
    }

    private static void threeHundredByTakeUp() {
        due.promise("5, as long as 300 did not come");
        for (int came = 298; came <= 300; came++) {
            CarpetCounter x = Crowd.came(came, "20x3+20x4+20x2@0");
            x.cover(2, 1, 0);
            int come = 300 - came;
            due.is(come, x.takeUp(2), "takeUp at " + came);
            due.is(come, x.count(3), "kept");
            due.is(300, x.count(4), "came");
            due.is(180 - (come > 0 ? 60 : 0) - (come > 1 ? 80 : 0), x.rollOf(1, 7), "the others are waste");
            due.is(come > 0 ? 3 : -1, x.offcut(came, 2), "the first strip");
            due.is(-1, x.offcut(300, 0), "the offcut 300");
        }
        CarpetCounter y = Crowd.came(297, "20x3+20x4+20x2@0");
        y.cover(2, 1, 0);
        due.is(3, y.takeUp(2), "takeUp at 297");
        due.is(2, y.offcut(299, 2), "the offcut 299");
    }

    private static void offcutNumbers() {
        due.promise("16, a number from 0, in the order in which offcuts came, of all rolls");
        CarpetCounter x = Due.with(0, 10, 99, 1, "6x9@0;5x9@0;4x9@0");
        x.roll(0, 20, 99, 1);
        x.cover(0, 0, 0);
        x.cover(1, 1, 0);
        due.is(4, x.offcut(0, 1), "the offcut 0");
        due.is(1, x.offcut(1, 0), "the offcut 1 is of the roll 1");
        x.sell(1);
        x.undo();
        x.undo();
        due.is(1, x.count(4), "came after undo");
        x.cover(1, 0, 0);
        due.is(5, x.offcut(1, 1), "the number 1 again");
        x.sell(1);
        x.sell(0);
        due.is(0, x.count(3), "kept");
        due.is(2, x.count(4), "came");
        x.cover(2, 0, 0);
        due.is(6, x.offcut(2, 1), "no number comes twice");
        due.is(-1, x.offcut(0, 0), "the offcut 0");
    }

    private static void sixtyCharacters() {
        due.promise("9, a text of at most 60 characters, empty at first");
        CarpetCounter x = new CarpetCounter();
        due.is(0, x.count(10), "empty at first");
        String text = "10x1@0;1x1@0;1x1@0;1x1@0;1x1@0;1x1@0;1x1@0;1x1@0;1x1@0;1x1@3";
        for (int i = 0; i < 60; i++) {
            due.is(i, x.count(10), "count(10)");
            due.is(i + 1, x.type(text.charAt(i)), "type");
        }
        due.is(-5, x.fault(), "60 characters have no fault");
        due.is(-3, x.type(';'), "the character 61");
        due.is(-3, x.type((char) 0), "the character 61");
        due.is(60, x.count(10), "count(10)");
        due.is(-5, x.fault(), "still no fault");
        due.is(10, x.rooms(), "rooms");
        due.is(3, x.room(9, 2), "the side at the last character");
        due.is(60, x.clearText(), "clearText");
        due.is(0, x.clearText(), "clearText again");
        due.is(1, x.type('7'), "type after clearText");
        due.is(1, x.clearText(), "clearText");
    }

    private static void fourStates() {
        due.promise("12, a history of at most 4 states");
        for (int acts = 0; acts <= 6; acts++) {
            CarpetCounter x = new CarpetCounter();
            for (int i = 0; i < acts; i++) {
                due.is(i < 4 ? i : 4, x.count(9), "count(9)");
                x.roll(0, 5, 5, 0);
            }
            int states = acts < 4 ? acts : 4;
            for (int left = states - 1; left >= 0; left--) {
                due.is(left, x.undo(), "undo after " + acts);
                due.is(left, x.count(9), "count(9)");
                due.is(acts - states + left, x.count(0), "rolls");
            }
            due.is(-5, x.undo(), "undo of none after " + acts);
            due.is(acts - states, x.count(0), "rolls");
        }
    }

    /** States come and go many times: the oldest one goes, wherever it is held. */
    private static void oldestStateDropped() {
        due.promise("12, when one more is recorded, the oldest one is dropped");
        for (int turns = 0; turns < 9; turns++) {
            CarpetCounter x = new CarpetCounter();
            for (int i = 0; i < turns; i++) {
                x.set(2, 50 + i);
            }
            x.undo();
            for (int price = 10; price < 15; price++) {
                x.set(2, price);
            }
            due.is(4, x.count(9), "count(9)");
            for (int price = 13; price >= 10; price--) {
                due.is(price - 10, x.undo(), "undo");
                due.is(price, x.count(13), "the setting");
            }
            due.is(-5, x.undo(), "undo of none");
            due.is(10, x.count(13), "the setting");
        }
    }

    private static void noSnapshot() {
        due.promise("14, there is one snapshot, empty at first");
        CarpetCounter x = new CarpetCounter();
        due.is(-5, x.restore(), "restore at first");
        Due.rooms(x, "1x1@0");
        due.is(-5, x.restore(), "restore without keep");
        due.is(1, x.count(1), "rooms");
        due.is(1, x.keep(), "keep");
        Due.rooms(x, "1x1@0;1x1@0");
        due.is(3, x.keep(), "keep, in place of the one that was");
        Due.rooms(x, "1x1@0");
        due.is(3, x.restore(), "restore");
        due.is(3, x.restore(), "restore again");
        x.undo();
        x.undo();
        due.is(4, x.count(1), "rooms after undo");
        due.is(3, x.restore(), "restore after undo");
    }

    private static void nothingToTell() {
        due.promise("1");
        int[] first = {0, 0, 0, 0, 0, 0, 0, 0, 0, 0, 0, 0, 3, 2, 3, 0};
        for (int what = 0; what < 16; what++) {
            due.is(first[what], new CarpetCounter().count(what), "count(" + what + ")");
        }
        due.is(0, new CarpetCounter().fault(), "the empty text ends too early");
        due.is(-100, new CarpetCounter().rooms(), "rooms");
        due.is(0, new CarpetCounter().clearText(), "clearText");
        due.is(0, new CarpetCounter().keep(), "keep");
        due.is(0, new CarpetCounter().coverAll(0, 0), "coverAll");
        due.is(0, new CarpetCounter().coverAll(9, 1), "coverAll");
        CarpetCounter x = new CarpetCounter();
        x.roll(0, 5, 5, 5);
        due.is(0, x.rollOf(0, 4), "no offcuts of a new roll");
        due.is(0, x.rollOf(0, 5), "nor an area");
        due.is(0, x.rollOf(0, 6), "no strips");
        due.is(0, x.rollOf(0, 7), "no waste");
        due.is(0, x.rollOf(0, 8), "nothing sold");
        due.is(-1, x.cover(0, 0, 0), "cover without rooms");
        due.is(0, x.coverAll(0, 0), "coverAll without rooms");
        CarpetCounter y = new CarpetCounter();
        Due.rooms(y, "1x1@0");
        due.is(-1, y.cover(0, 0, 0), "cover without rolls");
        due.is(-5, y.best(0, 0, 0), "best without rolls");
        due.is(0, y.coverAll(0, 0), "coverAll without rolls");
    }

    /** The last calls that the document asks for answer as the first ones do. */
    private static void fiveHundredAndTwelveCalls() {
        due.promise("An object is used for at most 512 calls");
        CarpetCounter x = Due.with(0, 60, 999, 99, "60x60+60x60+60x60@0"); // 22 calls
        for (int i = 0; i < 100; i++) {
            due.is(1069200, x.cover(0, 0, 0), "cover");
            due.is(3, x.takeUp(0), "takeUp");
            due.is(819, x.rollOf(0, 2), "left");
        }
        for (int i = 322; i < 509; i++) {
            due.is(i % 2 == 0 ? 0 : 1, x.set(0, i % 2 == 0 ? 1 : 0), "set");
        }
        due.is(106920000, x.count(8), "coins, the call 510");
        due.is(300, x.count(4), "offcuts so far, the call 511");
        due.is(3, x.undo(), "undo, the call 512");
    }
}
