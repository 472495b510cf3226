/** Promises 22 to 25: what would be. */
public final class WouldBeTest {
    private static final Due due = new Due();

    public static void main(String[] args) {
        ifCovered();
        ifCoveredRefused();
        bestByWaste();
        bestByOrder();
        bestRefused();
        suits();
        coverAll();
        coverAllFollows();
        bestByOne();
        bestOfTwelve();
        suitsAtTheEdges();
        suitsBareRoomsAlone();
        coverAllAsBestTells();
        coverAllPassesOver();
        coverAllAtItsLimits();
        ifCoveredForNothing();
        ifCoveredWasteThatComes();
        bestOfNothing();
        suitsTheRoomZero();
        due.end();
    }

    private static void ifCovered() {
        due.promise("22");
        CarpetCounter x = Due.with(0, 10, 200, 2, "25x30+4x8@2");
        String before = Due.told(x);
        int[] zero = {2 * 782 + 2 * 60, 4, 60, 30, 90, 1};
        int[] one = {2 * 782 + 6 * 50, 4, 50, 8, 79, 0};
        for (int what = 0; what < 6; what++) {
            due.is(zero[what], x.ifCovered(0, 0, 0, what), "ifCovered way 0, " + what);
            due.is(one[what], x.ifCovered(0, 0, 1, what), "ifCovered way 1, " + what);
        }
        due.same(before, x, "ifCovered");
        due.is(zero[0], x.cover(0, 0, 0), "cover");
        due.is(zero[3], x.count(5), "waste");
    }

    private static void ifCoveredRefused() {
        due.promise("22");
        CarpetCounter x = Due.with(0, 10, 20, 2, "10x15@0;10x6@1;10x5@0");
        x.cover(0, 0, 0);
        due.is(-1, x.ifCovered(3, 0, 0, 0), "room");
        due.is(-1, x.ifCovered(-1, 0, 7, 0), "room goes ahead");
        due.is(-1, x.ifCovered(0, 1, 0, 9), "roll goes ahead");
        due.is(-2, x.ifCovered(0, 0, 2, 0), "way");
        due.is(-2, x.ifCovered(0, 0, -1, 0), "way");
        due.is(-2, x.ifCovered(0, 0, 0, 6), "what goes ahead of the reason");
        due.is(-2, x.ifCovered(0, 0, 0, -1), "what");
        due.is(-11, x.ifCovered(0, 0, 0, 5), "covered");
        due.is(-13, x.ifCovered(1, 0, 0, 1), "too short");
        due.is(5, x.ifCovered(2, 0, 0, 4), "length");
        x.set(4, 1);
        due.is(-12, x.ifCovered(1, 0, 0, 0), "across");
        due.is(-11, x.ifCovered(0, 0, 1, 0), "covered goes ahead");
    }

    private static void bestByWaste() {
        due.promise("23");
        // 8 x 10 from 9 wide wastes 10, from 10 wide 20, from 20 wide nothing (an offcut)
        CarpetCounter x = Due.with(2, 10, 99, 1, "8x10@0");
        x.roll(2, 9, 99, 50);
        x.roll(3, 20, 99, 9);
        due.is(0, x.best(0, 2, 0), "with the way 1 nothing is wasted");
        due.is(1, x.best(0, 2, 1), "the way");
        due.is(0, x.best(0, 2, 2), "the waste");
        due.is(80, x.best(0, 2, 3), "the price");
        x.set(4, 1);
        due.is(1, x.best(0, 2, 0), "the roll");
        due.is(0, x.best(0, 2, 1), "the way");
        due.is(10, x.best(0, 2, 2), "the waste");
        due.is(4000, x.best(0, 2, 3), "the price");
        due.is(2, x.best(0, 3, 0), "the other kind");
        due.is(720, x.best(0, 3, 3), "its price");
        due.is(3 + 1, x.count(9), "no act");
        due.is(99, x.rollOf(1, 2), "nothing is cut");
    }

    private static void bestByOrder() {
        due.promise("23");
        CarpetCounter x = Due.with(0, 10, 5, 1, "6x6@0");
        x.roll(0, 10, 99, 4);
        x.roll(0, 10, 99, 3);
        x.roll(0, 10, 99, 3);
        x.roll(1, 10, 99, 1);
        due.is(2, x.best(0, 0, 0), "the lower price, then the lower roll");
        due.is(0, x.best(0, 0, 1), "then the way 0");
        due.is(108, x.best(0, 0, 3), "the price");
        CarpetCounter y = Due.with(0, 5, 99, 0, "6x6@0");
        due.is(0, y.best(0, 0, 1), "the way");
        due.is(12, y.best(0, 0, 3), "a seam with the light");
        CarpetCounter z = Due.with(0, 5, 99, 0, "6x6@1");
        due.is(1, z.best(0, 0, 1), "the way with the lower price");
    }

    private static void bestRefused() {
        due.promise("23");
        CarpetCounter x = Due.with(0, 10, 50, 1, "6x6@0;60x60@0");
        due.is(-1, x.best(2, 0, 0), "room");
        due.is(-1, x.best(-1, 10, 0), "room goes ahead");
        due.is(-2, x.best(0, 10, 0), "kind");
        due.is(-2, x.best(0, -1, 0), "kind");
        due.is(-2, x.best(0, 0, 4), "what");
        due.is(-2, x.best(0, 0, -1), "what");
        due.is(-5, x.best(0, 9, 0), "no roll of that kind");
        due.is(-5, x.best(1, 0, 2), "no roll suffices");
        x.cover(0, 0, 0);
        due.is(-5, x.best(0, 0, 0), "covered");
        due.is(-2, x.best(0, 0, 9), "what goes ahead");
    }

    private static void suits() {
        due.promise("24");
        CarpetCounter x = Due.with(0, 20, 99, 1, "12x20@0;9x9@0;3x3+1x1@0;4x8@1;8x4@1;8x20@1;1x1@0");
        x.cover(0, 0, 0);
        // the offcut 0 is 8 wide and 20 long
        due.is(3, x.suits(0), "the room 3, for 1 is too wide and 2 has two rectangles");
        x.cover(3, 0, 0);
        due.is(4, x.suits(1), "by one of both ways");
        due.is(-1, x.suits(0), "cut");
        due.is(-1, x.suits(-1), "unknown");
        due.is(-1, x.suits(300), "unknown");
        CarpetCounter y = Due.with(0, 20, 99, 1, "12x20@0;8x20@1;8x20@2");
        y.cover(0, 0, 0);
        due.is(1, y.suits(0), "without the light");
        y.set(4, 1);
        due.is(2, y.suits(0), "with the light");
        due.is(3, y.count(9) - 1, "no act");
        CarpetCounter z = Due.with(0, 20, 99, 1, "12x20@0;20x8@2;20x9@0;21x8@0");
        z.cover(0, 0, 0);
        due.is(1, z.suits(0), "the way 1");
        z.set(4, 1);
        due.is(-5, z.suits(0), "none with the light");
    }

    private static void coverAll() {
        due.promise("25");
        CarpetCounter x = Due.with(0, 10, 30, 1, "10x20@0;10x20@0;8x10@0;9x60@0");
        String before = Due.told(x);
        due.is(2, x.coverAll(0, 0), "the rooms 0 and 2");
        due.is(0, x.coverAll(0, 1), "waste");
        due.same(before, x, "coverAll");
        x.set(4, 1);
        due.is(2, x.coverAll(0, 0), "with the light");
        due.is(20, x.coverAll(0, 1), "waste");
        x.cover(0, 0, 0);
        due.is(1, x.coverAll(0, 0), "bare rooms alone");
        due.is(0, x.coverAll(1, 0), "no roll");
        due.is(0, x.coverAll(1, 1), "no roll");
        due.is(-2, x.coverAll(-1, 0), "kind");
        due.is(-2, x.coverAll(10, 0), "kind");
        due.is(-2, x.coverAll(0, 2), "what");
        due.is(-2, x.coverAll(0, -1), "what");
        due.is(0, new CarpetCounter().coverAll(0, 0), "no rooms");
    }

    /** Offcuts that come by a room serve for later ones. */
    private static void coverAllFollows() {
        due.promise("25");
        CarpetCounter x = Due.with(0, 20, 20, 1, "12x20@0;6x20@0;2x20@2;1x1@0");
        x.set(4, 1);
        due.is(2, x.coverAll(0, 0), "how many");
        due.is(40, x.coverAll(0, 1), "2 x 20 is thrown away");
        x.set(1, 2);
        due.is(3, x.coverAll(0, 0), "how many");
        due.is(0, x.coverAll(0, 1), "nothing is thrown away");
        due.is(0, x.count(2), "nothing is covered");
    }

    /** A waste or a price that is less by one is better; a waste goes ahead of any price. */
    private static void bestByOne() {
        due.promise("23, the least waste, of several the lowest price");
        CarpetCounter x = Due.with(0, 11, 99, 0, "10x10@0");
        x.roll(0, 10, 99, 99);
        x.set(4, 1);
        due.is(1, x.best(0, 0, 0), "no waste, whatever its price");
        due.is(9900, x.best(0, 0, 3), "the price");
        CarpetCounter y = Due.with(0, 12, 99, 0, "10x1@0");
        y.roll(0, 11, 99, 99);
        y.roll(0, 12, 99, 0);
        y.set(4, 1);
        due.is(1, y.best(0, 0, 0), "a waste of 1 and not of 2");
        due.is(1, y.best(0, 0, 2), "the waste");
        CarpetCounter z = Due.with(0, 10, 99, 1, "1x1@0");
        z.roll(0, 10, 99, 0);
        due.is(1, z.best(0, 0, 0), "a price of 0 and not of 1");
        due.is(0, z.best(0, 0, 3), "the price");
        due.is(9, z.best(0, 0, 2), "the waste");
        due.is(0, z.best(0, 0, 1), "of several the way 0");
    }

    private static void bestOfTwelve() {
        due.promise("23, of several the lowest roll, of several the way 0");
        CarpetCounter x = new CarpetCounter();
        for (int roll = 0; roll < 12; roll++) {
            x.roll(roll < 11 ? 1 : 2, 10, 99, roll == 0 || roll == 11 ? 9 : 1);
        }
        Due.rooms(x, "6x6@0;7x6@0;60x60@1");
        due.is(1, x.best(0, 1, 0), "the lowest roll of ten");
        due.is(0, x.best(0, 1, 1), "its way");
        due.is(11, x.best(0, 2, 0), "the last roll");
        due.is(0, x.best(0, 2, 1), "its way");
        due.is(-5, x.best(0, 3, 0), "no roll of this kind");
        due.is(-5, x.best(0, 0, 0), "no roll of this kind");
        CarpetCounter y = Due.with(0, 5, 1, 0, "2x2@0");
        for (int what = 0; what < 4; what++) {
            due.is(-5, y.best(0, 0, what), "a roll that is too short");
        }
    }

    private static void suitsAtTheEdges() {
        due.promise("24, as wide at most and as long at most by one of both ways");
        // the offcut is 8 wide and 20 long; the light comes from north: with the way 0 pile runs with it
        String[] rooms = {"8x20", "7x20", "8x19", "1x1", "9x20", "8x21", "20x8", "20x7", "19x8", "21x8", "20x9", "9x9",
            "8x8", "60x1"};
        int[] free = {1, 1, 1, 1, -5, -5, 1, 1, 1, -5, -5, -5, 1, -5};
        int[] along = {1, 1, 1, 1, -5, -5, -5, -5, -5, -5, -5, -5, 1, -5};
        for (int side = 0; side < 4; side++) {
            for (int i = 0; i < rooms.length; i++) {
                String sides = side % 2 == 0 ? rooms[i] : turned(rooms[i]);
                CarpetCounter x = Due.with(0, 20, 99, 1, "12x20@0;" + sides + "@" + side);
                x.cover(0, 0, 0);
                due.is(20, x.offcut(0, 2), "the offcut's length");
                due.is(free[i], x.suits(0), "suits " + sides + "@" + side);
                x.set(4, 1);
                due.is(along[i], x.suits(0), "suits with the light " + sides + "@" + side);
            }
        }
    }

    private static String turned(String sides) {
        int at = sides.indexOf('x');
        return sides.substring(at + 1) + "x" + sides.substring(0, at);
    }

    private static void suitsBareRoomsAlone() {
        due.promise("24, the first bare room, of one rectangle");
        CarpetCounter x = Due.with(0, 20, 99, 1, "12x20@0;1x1@0;1x1+1x1@0;1x1+1x1+1x1@0;2x2@0;3x3@0");
        x.roll(0, 60, 99, 1);
        x.cover(0, 0, 0);
        due.is(1, x.suits(0), "the first one");
        x.cover(1, 1, 0);
        due.is(4, x.suits(0), "neither covered nor of several rectangles");
        x.cover(4, 1, 0);
        due.is(5, x.suits(0), "the last one");
        x.cover(5, 1, 0);
        due.is(-5, x.suits(0), "none is left");
        x.takeUp(1);
        due.is(1, x.suits(0), "bare again");
        x.sell(0);
        due.is(-1, x.suits(0), "sold");
    }

    private static void coverAllAsBestTells() {
        due.promise("25, each as best() tells it for a kind");
        CarpetCounter x = Due.with(1, 10, 40, 3, "7x9@0;12x5@1;10x10+4x4@2;3x3@3;9x20@0;60x9@1");
        x.roll(1, 9, 30, 2);
        x.roll(2, 10, 99, 1);
        for (int kind = 0; kind < 4; kind++) {
            CarpetCounter y = Due.with(1, 10, 40, 3, "7x9@0;12x5@1;10x10+4x4@2;3x3@3;9x20@0;60x9@1");
            y.roll(1, 9, 30, 2);
            y.roll(2, 10, 99, 1);
            int many = 0;
            for (int room = 0; room < 6; room++) {
                int roll = y.best(room, kind, 0);
                if (roll >= 0) {
                    due.is(y.best(room, kind, 3), y.cover(room, roll, y.best(room, kind, 1)), "cover as best tells");
                    many++;
                }
            }
            due.is(many, x.coverAll(kind, 0), "how many of the kind " + kind);
            due.is(y.count(5), x.coverAll(kind, 1), "the waste of the kind " + kind);
            due.is(0, y.coverAll(kind, 0), "no more of the kind " + kind);
        }
    }

    private static void coverAllPassesOver() {
        due.promise("25, those that cannot are passed over");
        CarpetCounter x = Due.with(0, 10, 20, 1, "10x21@0;10x19@0;10x2@0;10x1@0;1x1@0");
        x.set(4, 1);
        due.is(2, x.coverAll(0, 0), "the rooms 1 and 3");
        due.is(0, x.coverAll(0, 1), "no waste");
        x.cover(3, 0, 0);
        due.is(1, x.coverAll(0, 0), "the room 1");
        due.is(1, x.count(2), "nothing is covered by that");
        x.cover(1, 0, 0);
        due.is(0, x.coverAll(0, 0), "none, for nothing is left");
        x.takeUp(1);
        due.is(1, x.coverAll(0, 0), "the room 1 from its offcut");
        x.cover(1, 0, 0);
        x.takeUp(3);
        due.is(1, x.coverAll(0, 0), "the room 3 from its offcut");
        x.takeUp(1);
        due.is(2, x.coverAll(0, 0), "the rooms 1 and 3 from theirs");
    }

    private static void coverAllAtItsLimits() {
        due.promise("25, 60 offcuts are kept and 300 came at most");
        // the roll 1, 20 long, of the kind 1: 15 go to the room 0; the room 1 is too great
        String rooms = "59x1@0;60x1@0;58x1@1";
        CarpetCounter x = Crowd.kept(60, rooms);
        due.is(2, x.coverAll(1, 0), "the rooms 0 and 3, without rests");
        due.is(0, x.coverAll(1, 1), "no waste");
        x.set(1, 2);
        due.is(4, x.coverAll(1, 0), "the rooms 2 and 4 too, whose rests are thrown away");
        due.is(1 + 2, x.coverAll(1, 1), "these rests");
        due.is(3, Crowd.kept(59, rooms).coverAll(1, 0), "the room 2 too, by whose rest 60 are kept");
        due.is(4, Crowd.kept(58, rooms).coverAll(1, 0), "the room 4 too");
        // the roll 1, 20 wide, of the kind 1: the room 0 leaves no rest, the room 1 does
        due.is(2, Crowd.came(300, "19x1@0;20x1@0").coverAll(1, 0), "the rooms 0 and 3");
        due.is(3, Crowd.came(299, "19x1@0;20x1@0").coverAll(1, 0), "the room 1 too");
        due.is(4, Crowd.came(298, "19x1@0;20x1@0").coverAll(1, 0), "the room 2 too");
    }

    /** A price of 0 is no reason why not. */
    private static void ifCoveredForNothing() {
        due.promise("22, what covering a room would bring");
        CarpetCounter x = Due.with(0, 10, 9, 0, "9x9+1x9@0");
        int[] want = {0, 2, 0, 0, 9, 1};
        x.set(1, 1);
        for (int what = 0; what < 6; what++) {
            due.is(want[what], x.ifCovered(0, 0, 0, what), "ifCovered " + what);
        }
        due.is(0, x.best(0, 0, 0), "best");
        due.is(1, x.coverAll(0, 0), "coverAll");
    }

    private static void ifCoveredWasteThatComes() {
        due.promise("22, the waste that comes by it, the length that the roll gives");
        CarpetCounter x = Due.with(0, 10, 50, 1, "9x9@0;8x5@0;9x7@0");
        x.cover(0, 0, 0);
        due.is(9, x.count(5), "the waste that came");
        due.is(10, x.ifCovered(1, 0, 0, 3), "the waste that would come");
        due.is(5, x.ifCovered(1, 0, 0, 4), "the length");
        due.is(7, x.ifCovered(2, 0, 0, 3), "the waste of the room 2");
        x.set(4, 1);
        due.is(17, x.coverAll(0, 1), "the waste of both");
    }

    /** Without a price of seams a covering from no roll would be the cheapest one. */
    private static void bestOfNothing() {
        due.promise("23, NONE if it cannot be covered from any");
        CarpetCounter x = Due.with(0, 10, 5, 0, "6x6@0;6x6+6x6@1");
        x.set(2, 0);
        due.is(-5, x.best(0, 0, 0), "best of kind 0");
        due.is(-5, x.best(1, 0, 3), "best of kind 0");
        due.is(0, x.coverAll(0, 0), "coverAll of kind 0");
        CarpetCounter none = new CarpetCounter();
        none.set(2, 0);
        Due.rooms(none, "6x6@0");
        due.is(-5, none.best(0, 0, 0), "best without rolls");
        due.is(0, none.coverAll(0, 0), "coverAll without rolls");
    }

    private static void suitsTheRoomZero() {
        due.promise("24, the first bare room");
        CarpetCounter x = Due.with(0, 20, 99, 1, "8x9@0;12x9@0;8x9@0");
        x.cover(1, 0, 0);
        due.is(8, x.offcut(0, 1), "the offcut's width");
        due.is(0, x.suits(0), "the room 0");
        x.cover(0, 0, 0);
        due.is(-1, x.suits(0), "it is cut");
        x.takeUp(0);
        due.is(0, x.suits(1), "the room 0 again");
    }
}
