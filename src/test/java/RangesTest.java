import java.util.function.IntUnaryOperator;

/**
 * Every argument of every call, each on a new object: just below its range, at
 * both its ends, just above it, and where a narrower number would wrap around.
 */
public final class RangesTest {
    private static final Due due = new Due();

    public static void main(String[] args) {
        roll();
        cover();
        takeUpAndSell();
        clear();
        set();
        rollOf();
        offcut();
        sorted();
        room();
        strip();
        count();
        wasted();
        ifCovered();
        best();
        suits();
        coverAll();
        due.end();
    }

    /** The answers at the ends are given; outside there is the error alone. */
    private static void range(String call, int least, int wantLeast, int most, int wantMost, int error,
            IntUnaryOperator f) {
        due.is(wantLeast, f.applyAsInt(least), call + " with " + least);
        due.is(wantMost, f.applyAsInt(most), call + " with " + most);
        outside(call, least, most, error, f);
    }

    private static void outside(String call, int least, int most, int error, IntUnaryOperator f) {
        int[] values = {least - 1, most + 1, least - 256, least + 256 * 256, most + 65536 * 256,
            Integer.MIN_VALUE, Integer.MIN_VALUE + most, Integer.MIN_VALUE + 11, Integer.MAX_VALUE,
            Integer.MAX_VALUE - most};
        for (int value : values) {
            if (value < least || value > most) {
                due.is(error, f.applyAsInt(value), call + " with " + value);
            }
        }
    }

    /** Two rolls and three bare rooms. */
    private static CarpetCounter bare() {
        CarpetCounter x = Due.with(3, 10, 100, 5, "7x20@0;8x10@0;16x6@1");
        x.roll(4, 12, 50, 2);
        return x;
    }

    /** The rooms are covered; kept are 0, 3 x 20 of the roll 0, and 1, 6 x 16 of the roll 1. */
    private static CarpetCounter covered() {
        CarpetCounter x = bare();
        x.cover(0, 0, 0);
        x.cover(1, 0, 0);
        x.cover(2, 1, 1);
        return x;
    }

    private static void roll() {
        due.promise("2");
        range("roll's kind", 0, 0, 9, 9, -2, v -> rollTold(v, 10, 10, 1, 0));
        range("roll's width", 5, 5, 60, 60, -2, v -> rollTold(1, v, 10, 1, 1));
        range("roll's length", 1, 1, 999, 999, -2, v -> rollTold(1, 10, v, 1, 2));
        range("roll's price", 0, 0, 99, 99, -2, v -> rollTold(1, 10, 10, v, 3));
    }

    private static int rollTold(int kind, int width, int length, int price, int what) {
        CarpetCounter x = new CarpetCounter();
        int roll = x.roll(kind, width, length, price);
        due.is(roll < 0 ? 0 : 1, x.count(0), "rolls");
        return roll < 0 ? roll : x.rollOf(roll, what);
    }

    private static void cover() {
        due.promise("4");
        range("cover's room", 0, 700, 2, 480 + 36, -1, v -> bare().cover(v, 0, 0));
        range("cover's roll", 0, 700, 1, 280, -1, v -> bare().cover(0, v, 0));
        range("cover's way", 0, 0, 1, 1, -2, v -> {
            CarpetCounter x = bare();
            int price = x.cover(1, 0, v);
            return price < 0 ? price : x.room(1, 5);
        });
        outside("cover's room, of none", 0, -1, -1, v -> new CarpetCounter().cover(v, 0, 0));
        due.is(-1, new CarpetCounter().cover(0, 0, 0), "cover without rooms and rolls");
    }

    private static void takeUpAndSell() {
        due.promise("5");
        range("takeUp's room", 0, 1, 2, 1, -1, v -> covered().takeUp(v));
        due.is(-1, new CarpetCounter().takeUp(0), "takeUp without rooms");
        due.promise("6");
        range("sell's offcut", 0, 150, 1, 96, -1, v -> covered().sell(v));
        due.is(-1, new CarpetCounter().sell(0), "sell without offcuts");
    }

    private static void clear() {
        due.promise("7");
        range("clear's roll", 0, 1, 1, 1, -1, v -> covered().clear(v, 9999));
        range("clear's area", 1, -5, 9999, 1, -2, v -> covered().clear(0, v));
        due.is(-1, new CarpetCounter().clear(0, 1), "clear without rolls");
    }

    private static void set() {
        due.promise("8");
        int[] least = {0, 1, 0, 1, 0};
        int[] most = {2, 20, 99, 9, 1};
        for (int which = 0; which < 5; which++) {
            int w = which;
            range("set(" + w + ")", least[w], least[w], most[w], most[w], -2, v -> {
                CarpetCounter x = new CarpetCounter();
                int before = x.count(11 + w);
                int answer = x.set(w, v);
                due.is(v == before ? -5 : v < least[w] || v > most[w] ? -2 : before, answer, "set");
                return answer == -2 ? -2 : x.count(11 + w);
            });
        }
        range("set's which", 0, 0, 4, 0, -2, v -> new CarpetCounter().set(v, 1));
    }

    private static void rollOf() {
        due.promise("15");
        range("rollOf's roll", 0, 10, 1, 12, -1, v -> covered().rollOf(v, 1));
        range("rollOf's what", 0, 3, 9, 1000, -2, v -> covered().rollOf(0, v));
        due.is(-1, new CarpetCounter().rollOf(0, 0), "rollOf without rolls");
    }

    private static void offcut() {
        due.promise("16");
        range("offcut's offcut", 0, 3, 1, 6, -1, v -> covered().offcut(v, 1));
        range("offcut's what", 0, 1, 2, 16, -2, v -> covered().offcut(1, v));
        due.is(-1, new CarpetCounter().offcut(0, 0), "offcut without offcuts");
    }

    private static void sorted() {
        due.promise("17");
        int[] low = {-1, -2, -256, Integer.MIN_VALUE, Integer.MIN_VALUE + 1};
        for (int rank : low) {
            due.is(-2, covered().sorted(rank), "sorted(" + rank + ")");
            due.is(-2, new CarpetCounter().sorted(rank), "sorted(" + rank + ") of none");
        }
        range("sorted's rank", 0, 0, 1, 1, -5, v -> v < 0 ? -5 : covered().sorted(v));
        due.is(-5, new CarpetCounter().sorted(0), "sorted(0) of none");
    }

    private static void room() {
        due.promise("18");
        range("room's room", 0, 140, 2, 96, -1, v -> covered().room(v, 1));
        range("room's what", 0, 1, 8, 700, -2, v -> covered().room(0, v));
        range("room's what, bare", 0, 1, 8, -5, -2, v -> bare().room(0, v));
        due.is(-1, new CarpetCounter().room(0, 0), "room without rooms");
    }

    private static void strip() {
        due.promise("19");
        range("strip's room", 0, 7, 2, 6, -1, v -> covered().strip(v, 0, 0));
        range("strip's what", 0, 7, 2, -5, -2, v -> covered().strip(0, 0, v));
        range("strip's rank", 0, 10, 1, 6, -5, v -> v < 0 ? -5 : twoStrips().strip(0, v, 0));
        int[] low = {-1, -2, -256, Integer.MIN_VALUE, Integer.MIN_VALUE + 1};
        for (int rank : low) {
            due.is(-2, twoStrips().strip(0, rank, 0), "strip's rank " + rank);
            due.is(-2, bare().strip(0, rank, 0), "strip's rank " + rank + ", bare");
        }
        due.is(-1, new CarpetCounter().strip(0, 0, 0), "strip without rooms");
    }

    private static CarpetCounter twoStrips() {
        CarpetCounter x = Due.with(0, 10, 99, 1, "16x7@0;9x9@0");
        x.cover(0, 0, 0);
        x.cover(1, 0, 0);
        return x;
    }

    private static void count() {
        due.promise("20");
        range("count's what", 0, 2, 15, 0, -2, v -> covered().count(v));
        due.is(20, covered().count(10), "the last before the settings");
        due.is(0, covered().count(11), "the first setting");
        due.is(2, covered().count(13), "the price of a seam");
    }

    private static void wasted() {
        due.promise("21");
        due.isDouble(0.02, covered().wasted(0), "wasted(0)");
        due.isDouble(0.0, covered().wasted(1), "wasted(1)");
        int[] unknown = {-1, 2, 11, 12, 13, 256, 65536, Integer.MIN_VALUE, Integer.MAX_VALUE};
        for (int roll : unknown) {
            due.isDouble(-1.0, covered().wasted(roll), "wasted(" + roll + ")");
        }
        due.isDouble(-1.0, new CarpetCounter().wasted(0), "wasted(0) without rolls");
    }

    private static void ifCovered() {
        due.promise("22");
        range("ifCovered's room", 0, 700, 2, 480 + 36, -1, v -> bare().ifCovered(v, 0, 0, 0));
        range("ifCovered's roll", 0, 700, 1, 280, -1, v -> bare().ifCovered(0, v, 0, 0));
        range("ifCovered's way", 0, 10, 1, 8, -2, v -> bare().ifCovered(1, 0, v, 4));
        range("ifCovered's what", 0, 700, 5, 0, -2, v -> bare().ifCovered(0, 0, 0, v));
        due.is(-1, new CarpetCounter().ifCovered(0, 0, 0, 0), "ifCovered without rooms and rolls");
    }

    private static void best() {
        due.promise("23");
        range("best's room", 0, 700, 2, 480, -1, v -> bare().best(v, 3, 3));
        range("best's kind", 0, 0, 9, 1, -2, v -> ends().best(0, v, 0));
        range("best's what", 0, 0, 3, 700, -2, v -> bare().best(0, 3, v));
        due.is(-1, new CarpetCounter().best(0, 0, 0), "best without rooms");
    }

    /** A roll of the kind 0 and one of the kind 9. */
    private static CarpetCounter ends() {
        CarpetCounter x = Due.with(0, 10, 100, 5, "7x20@0");
        x.roll(9, 10, 100, 5);
        return x;
    }

    private static void suits() {
        due.promise("24");
        range("suits' offcut", 0, 3, 1, 3, -1, v -> {
            CarpetCounter x = covered();
            Due.rooms(x, "1x1@0");
            return x.suits(v);
        });
        due.is(-1, new CarpetCounter().suits(0), "suits without offcuts");
    }

    private static void coverAll() {
        due.promise("25");
        range("coverAll's kind", 0, 1, 9, 1, -2, v -> ends().coverAll(v, 0));
        range("coverAll's what", 0, 3, 1, 0, -2, v -> bare().coverAll(3, v));
    }
}
