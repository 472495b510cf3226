import java.util.function.Consumer;
import java.util.function.Supplier;
import java.util.function.ToIntFunction;

/**
 * What changes nothing: calls that return an error or NONE, and questions. Each is put
 * to one of two equal objects, which must then tell the same, back through the whole
 * history, in the snapshot and in the text. Acts must record one state, and no other call any.
 */
public final class RefusedTest {
    private static final Due due = new Due();

    public static void main(String[] args) {
        rollsAndRooms();
        covers();
        strippingAndSelling();
        clearAndSet();
        textsAndHistory();
        questionsRefused();
        questionsAnswered();
        acts();
        actsThatBringNothing();
        noActs();
        due.end();
    }

    /**
     * Rolls of two kinds, rooms of which two are covered and three bare, two offcuts, a text
     * with a fault; two states in the history; in the snapshot the room 2 is bare.
     */
    private static CarpetCounter rich() {
        CarpetCounter x = new CarpetCounter();
        x.roll(3, 10, 100, 5);
        x.roll(4, 12, 50, 2);
        Due.rooms(x, "7x20@0;8x10@0;16x6@1;60x60@2;3x3@2");
        x.cover(0, 0, 0); // the offcut 0: 3 x 20
        x.keep();
        for (int i = 0; i < 4; i++) {
            x.undo();
        }
        x.restore();
        x.cover(2, 1, 1); // the offcut 1: 6 x 16
        Due.text(x, "1x1@0;2x");
        x.ifCovered(1, 1, 1, 0); // what would be must leave no trace in what follows
        x.coverAll(3, 0);
        return x;
    }

    private static void refused(int want, String call, Supplier<CarpetCounter> made, ToIntFunction<CarpetCounter> f) {
        CarpetCounter x = made.get();
        due.is(want, f.applyAsInt(x), call);
        alike(call, made.get(), x);
    }

    /** Both objects are asked all that they can tell, and are used up by that. */
    private static void alike(String call, CarpetCounter want, CarpetCounter got) {
        due.same(Due.told(want), got, call);
        for (int i = 0; i < 6; i++) {
            int left = want.undo();
            due.is(left, got.undo(), "undo after " + call);
            due.same(Due.told(want), got, call + ", in the history,");
            if (left < 0) {
                break;
            }
        }
        due.is(want.restore(), got.restore(), "restore after " + call);
        due.same(Due.told(want), got, call + ", in the snapshot,");
        for (char c : "3@1".toCharArray()) {
            due.is(want.type(c), got.type(c), "type after " + call);
        }
        due.is(want.rooms(), got.rooms(), "rooms after " + call);
        due.same(Due.told(want), got, call + ", in the text,");
    }

    private static CarpetCounter manyRolls() {
        CarpetCounter x = rich();
        for (int i = 2; i < 12; i++) {
            x.roll(i % 10, 5 + i, 100 + i, i);
        }
        return x;
    }

    private static CarpetCounter manyRooms() {
        CarpetCounter x = rich();
        Due.rooms(x, "1x1@0;1x2@0;1x3@0;1x4@0;1x5@0;1x6@0;1x7@0;1x8@0");
        x.rooms();
        return x;
    }

    private static CarpetCounter withText(String text) {
        CarpetCounter x = rich();
        Due.text(x, text);
        return x;
    }

    private static void rollsAndRooms() {
        due.promise("2");
        refused(-2, "roll of a bad kind", RefusedTest::rich, x -> x.roll(10, 10, 10, 1));
        refused(-2, "roll of a bad width", RefusedTest::rich, x -> x.roll(0, 4, 10, 1));
        refused(-2, "roll of a bad length", RefusedTest::rich, x -> x.roll(0, 10, 0, 1));
        refused(-2, "roll of a bad price", RefusedTest::rich, x -> x.roll(0, 10, 10, -1));
        refused(-3, "the roll 13", RefusedTest::manyRolls, x -> x.roll(0, 10, 10, 1));
        due.promise("3");
        refused(-108, "rooms of a text that ends too early", RefusedTest::rich, CarpetCounter::rooms);
        refused(-100, "rooms of the empty text", () -> withText(""), CarpetCounter::rooms);
        refused(-106, "rooms with a fault after some", () -> withText("9x9@1;0"), CarpetCounter::rooms);
        refused(-3, "rooms too many", RefusedTest::manyRooms, CarpetCounter::rooms);
    }

    private static CarpetCounter withLight() {
        CarpetCounter x = rich();
        x.set(4, 1);
        return x;
    }

    private static void covers() {
        due.promise("4");
        refused(-1, "cover of no room", RefusedTest::rich, x -> x.cover(5, 0, 0));
        refused(-1, "cover from no roll", RefusedTest::rich, x -> x.cover(1, 2, 0));
        refused(-2, "cover with a bad way", RefusedTest::rich, x -> x.cover(1, 0, 2));
        refused(-11, "cover of a covered room", RefusedTest::rich, x -> x.cover(0, 1, 1));
        refused(-12, "cover across the light", RefusedTest::withLight, x -> x.cover(1, 0, 1));
        refused(-13, "cover that fails at the second strip", RefusedTest::rich, x -> x.cover(3, 0, 0));
        refused(-14, "cover that would keep 61", () -> Crowd.kept(60, "59x1@0"), x -> x.cover(2, 1, 0));
        refused(-14, "cover that would keep 61 by its second strip", () -> Crowd.kept(60, "60x2+2x2@0"),
                x -> x.cover(2, 1, 0));
        refused(-14, "cover by which 301 would come", () -> Crowd.came(300, "19x1@0"), x -> x.cover(2, 1, 0));
    }

    private static void strippingAndSelling() {
        due.promise("5");
        refused(-1, "takeUp of no room", RefusedTest::rich, x -> x.takeUp(5));
        refused(-5, "takeUp of a bare room", RefusedTest::rich, x -> x.takeUp(1));
        due.promise("6");
        refused(-1, "sell of an offcut to come", RefusedTest::rich, x -> x.sell(2));
        refused(-1, "sell of a negative offcut", RefusedTest::rich, x -> x.sell(-5));
        refused(-1, "sell of a sold offcut", () -> {
            CarpetCounter x = rich();
            x.sell(0);
            return x;
        }, x -> x.sell(0));
    }

    private static void clearAndSet() {
        due.promise("7");
        refused(-1, "clear of no roll", RefusedTest::rich, x -> x.clear(2, 9999));
        refused(-2, "clear below 0", RefusedTest::rich, x -> x.clear(0, 0));
        refused(-2, "clear below 10000", RefusedTest::rich, x -> x.clear(0, 10000));
        refused(-5, "clear of none", RefusedTest::rich, x -> x.clear(0, 60));
        due.promise("8");
        refused(-2, "set of no setting", RefusedTest::rich, x -> x.set(5, 1));
        refused(-2, "set of a bad value", RefusedTest::rich, x -> x.set(4, 2));
        int[] first = {0, 3, 2, 3, 0};
        for (int which = 0; which < 5; which++) {
            int w = which;
            refused(-5, "set as it is, " + w, RefusedTest::rich, x -> x.set(w, first[w]));
        }
    }

    private static void textsAndHistory() {
        due.promise("9");
        String sixty = "10x1@0;2x1@0;3x1@0;4x1@0;5x1@0;6x1@0;7x1@0;8x1@0;9x1@0;9x9@0";
        due.is(60, sixty.length(), "the text's length");
        refused(-3, "type when full", () -> withText(sixty), x -> x.type('1'));
        due.promise("10");
        refused(0, "clearText of an empty text", () -> withText(""), CarpetCounter::clearText);
        due.promise("12");
        Supplier<CarpetCounter> unwound = () -> {
            CarpetCounter x = rich();
            x.undo();
            x.undo();
            return x;
        };
        refused(-5, "undo of the empty history", unwound, CarpetCounter::undo);
        due.promise("14");
        refused(-5, "restore without a snapshot", () -> Due.with(0, 10, 9, 1, "3x3@0;2x"), CarpetCounter::restore);
        refused(-5, "restore without a snapshot", CarpetCounter::new, CarpetCounter::restore);
    }

    private static void questionsRefused() {
        due.promise("15 to 25");
        refused(-1, "rollOf", RefusedTest::rich, x -> x.rollOf(2, 0));
        refused(-2, "rollOf", RefusedTest::rich, x -> x.rollOf(0, 10));
        refused(-1, "offcut", RefusedTest::rich, x -> x.offcut(2, 0));
        refused(-2, "offcut", RefusedTest::rich, x -> x.offcut(0, 3));
        refused(-2, "sorted", RefusedTest::rich, x -> x.sorted(-1));
        refused(-5, "sorted", RefusedTest::rich, x -> x.sorted(2));
        refused(-1, "room", RefusedTest::rich, x -> x.room(5, 0));
        refused(-2, "room", RefusedTest::rich, x -> x.room(0, 9));
        refused(-5, "room", RefusedTest::rich, x -> x.room(1, 8));
        refused(-1, "strip", RefusedTest::rich, x -> x.strip(5, 0, 0));
        refused(-2, "strip", RefusedTest::rich, x -> x.strip(0, 0, 3));
        refused(-5, "strip", RefusedTest::rich, x -> x.strip(0, 1, 0));
        refused(-2, "count", RefusedTest::rich, x -> x.count(16));
        refused(-1, "wasted", RefusedTest::rich, x -> (int) x.wasted(2));
        refused(-1, "ifCovered", RefusedTest::rich, x -> x.ifCovered(5, 0, 0, 0));
        refused(-2, "ifCovered", RefusedTest::rich, x -> x.ifCovered(1, 0, 0, 6));
        refused(-11, "ifCovered", RefusedTest::rich, x -> x.ifCovered(0, 0, 0, 0));
        refused(-12, "ifCovered", RefusedTest::withLight, x -> x.ifCovered(1, 0, 1, 0));
        refused(-13, "ifCovered", RefusedTest::rich, x -> x.ifCovered(3, 0, 0, 0));
        refused(-14, "ifCovered", () -> Crowd.kept(60, "59x1@0"), x -> x.ifCovered(2, 1, 0, 0));
        refused(-1, "best", RefusedTest::rich, x -> x.best(5, 3, 0));
        refused(-2, "best", RefusedTest::rich, x -> x.best(1, 10, 0));
        refused(-5, "best", RefusedTest::rich, x -> x.best(3, 3, 0));
        refused(-1, "suits", RefusedTest::rich, x -> x.suits(2));
        refused(-5, "suits", () -> Crowd.kept(2, "6x6@0"), x -> x.suits(0));
        refused(-2, "coverAll", RefusedTest::rich, x -> x.coverAll(10, 0));
    }

    private static void questionsAnswered() {
        due.promise("11, 15 to 25");
        refused(8, "fault", RefusedTest::rich, CarpetCounter::fault);
        refused(-5, "fault", () -> withText("4x4+5x5@1"), CarpetCounter::fault);
        refused(60, "rollOf", RefusedTest::rich, x -> x.rollOf(0, 5));
        refused(20, "offcut", RefusedTest::rich, x -> x.offcut(0, 2));
        refused(0, "sorted", RefusedTest::rich, x -> x.sorted(0));
        refused(700, "room", RefusedTest::rich, x -> x.room(0, 8));
        refused(20, "strip", RefusedTest::rich, x -> x.strip(0, 0, 1));
        refused(700 + 192, "count", RefusedTest::rich, x -> x.count(8));
        refused(0, "wasted", RefusedTest::rich, x -> (int) x.wasted(0));
        refused(45, "ifCovered", RefusedTest::rich, x -> x.ifCovered(4, 0, 1, 0));
        refused(1, "ifCovered", RefusedTest::rich, x -> x.ifCovered(4, 0, 0, 5));
        refused(0, "best", RefusedTest::rich, x -> x.best(1, 3, 0));
        refused(4, "suits", RefusedTest::rich, x -> x.suits(0));
        refused(2, "coverAll", RefusedTest::rich, x -> x.coverAll(3, 0));
    }

    /** An act records the state that was before it: undo brings just that back. */
    private static void act(int want, String call, Supplier<CarpetCounter> made, ToIntFunction<CarpetCounter> f) {
        CarpetCounter x = made.get();
        int states = x.count(9);
        due.is(want, f.applyAsInt(x), call);
        due.is(states + 1, x.count(9), "the states after " + call);
        due.is(states, x.undo(), "undo of " + call);
        alike("undo of " + call, made.get(), x);
    }

    private static void acts() {
        due.promise("2 to 8, 12, 14");
        act(2, "roll", RefusedTest::rich, x -> x.roll(9, 60, 999, 99));
        act(1, "rooms", () -> withText("9x9+1x1+3x5@3"), CarpetCounter::rooms);
        act(400, "cover", RefusedTest::rich, x -> x.cover(1, 0, 0));
        act(45, "cover from an offcut", RefusedTest::rich, x -> x.cover(4, 0, 0));
        act(1, "takeUp", RefusedTest::rich, x -> x.takeUp(0));
        act(150, "sell", RefusedTest::rich, x -> x.sell(0));
        act(1, "clear", RefusedTest::rich, x -> x.clear(0, 61));
        int[] before = {0, 3, 2, 3, 0};
        for (int which = 0; which < 5; which++) {
            int w = which;
            act(before[w], "set " + w, RefusedTest::rich, x -> x.set(w, 1));
        }
        act(5, "restore", RefusedTest::rich, CarpetCounter::restore);
    }

    /** An answer of 0 is neither an error nor NONE. */
    private static void actsThatBringNothing() {
        due.promise("4 to 6, 14");
        act(0, "cover for nothing", () -> Due.with(0, 5, 9, 0, "5x5@0"), x -> x.cover(0, 0, 0));
        Supplier<CarpetCounter> free = () -> {
            CarpetCounter x = Due.with(0, 10, 9, 0, "5x5@0");
            x.cover(0, 0, 0);
            return x;
        };
        act(0, "sell for nothing", free, x -> x.sell(0));
        act(0, "takeUp of which nothing comes", RefusedTest::crowdedAndCovered, x -> x.takeUp(2));
        act(0, "restore of a state without rooms", () -> {
            CarpetCounter x = new CarpetCounter();
            x.keep();
            x.roll(0, 5, 5, 5);
            return x;
        }, CarpetCounter::restore);
    }

    /** 60 are kept, and the room 2 is covered; by the snapshot the history is short. */
    private static CarpetCounter crowdedAndCovered() {
        CarpetCounter x = Crowd.kept(60, "60x2@0");
        x.cover(2, 1, 0);
        x.keep();
        x.undo();
        x.undo();
        x.restore();
        due.is(60, x.count(3), "kept");
        return x;
    }

    private static void noActs() {
        due.promise("9, 10, 13");
        noAct("type", x -> x.type('7'));
        noAct("clearText", CarpetCounter::clearText);
        CarpetCounter x = rich();
        CarpetCounter y = rich();
        due.is(5, x.keep(), "keep");
        due.same(Due.told(y), x, "keep");
        due.is(1, x.undo(), "undo");
        due.is(1, y.undo(), "undo");
        due.same(Due.told(y), x, "keep, in the history,");
        due.is(5, x.restore(), "restore");
        due.same(Due.told(rich()), x, "keep and restore");
    }

    /** The text alone may be another one: it is typed again before all is compared. */
    private static void noAct(String call, Consumer<CarpetCounter> f) {
        CarpetCounter x = rich();
        f.accept(x);
        Due.text(x, "1x1@0;2x");
        alike(call, rich(), x);
    }
}
