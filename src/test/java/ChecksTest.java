/** The order of the checks, where several errors apply, and NONE, which gives way to all of them. */
public final class ChecksTest {
    private static final Due due = new Due();

    public static void main(String[] args) {
        badValueBeforeFull();
        faultBeforeFull();
        cover();
        reasons();
        firstCutThatFails();
        clear();
        told();
        ifCovered();
        best();
        due.end();
    }

    private static void badValueBeforeFull() {
        due.promise("2");
        CarpetCounter x = new CarpetCounter();
        for (int i = 0; i < 12; i++) {
            x.roll(0, 5, 1, 0);
        }
        due.is(-3, x.roll(0, 5, 1, 0), "a roll too many");
        due.is(-2, x.roll(10, 5, 1, 0), "one of a bad kind");
        due.is(-2, x.roll(0, 61, 1, 0), "one of a bad width");
        due.is(-2, x.roll(0, 5, 0, 0), "one of a bad length");
        due.is(-2, x.roll(0, 5, 1, 100), "one of a bad price");
    }

    private static void faultBeforeFull() {
        due.promise("3");
        CarpetCounter x = new CarpetCounter();
        Due.text(x, "1x1@0;1x1@0;1x1@0;1x1@0;1x1@0;1x1@0;1x1@0;1x1@0;1x1@0;1x1@0");
        x.rooms();
        x.rooms();
        due.is(-3, x.rooms(), "rooms too many");
        x.type(';');
        due.is(-160, x.rooms(), "a text that ends too early");
        due.is(-102, Due.rooms(x, "1x;"), "a fault inside");
        due.is(-100, Due.rooms(x, ""), "the empty text");
    }

    /** A roll 10 wide and 20 long, four rooms of which the first one is covered. */
    private static CarpetCounter shop() {
        CarpetCounter x = Due.with(0, 10, 20, 2, "10x15@0;10x6@1;30x7@0;1x1@0");
        x.cover(0, 0, 0);
        return x;
    }

    private static void cover() {
        due.promise("4");
        CarpetCounter x = shop();
        due.is(-1, x.cover(4, 0, 2), "no room goes ahead of a bad way");
        due.is(-1, x.cover(0, 1, 2), "no roll goes ahead of a bad way");
        due.is(-1, x.cover(0, 1, 0), "no roll goes ahead of a covered room");
        due.is(-2, x.cover(0, 0, 2), "a bad way goes ahead of a covered room");
        due.is(-2, x.cover(1, 0, -1), "a bad way goes ahead of a roll that is too short");
    }

    private static void reasons() {
        due.promise("4");
        CarpetCounter x = shop();
        x.set(4, 1);
        due.is(-11, x.cover(0, 0, 1), "1 goes ahead of 2");
        due.is(-11, x.cover(0, 0, 0), "1 goes ahead of 3");
        due.is(-12, x.cover(1, 0, 0), "2 goes ahead of 3");
        due.is(-12, x.cover(2, 0, 1), "2 goes ahead of 3");
        due.is(-13, x.cover(2, 0, 0), "3 alone");
        CarpetCounter y = Crowd.kept(60, "60x21+1x1@0;59x1@1");
        y.set(4, 1);
        due.is(-12, y.cover(2, 1, 1), "2 goes ahead of 3");
        due.is(-12, y.cover(3, 1, 0), "2 goes ahead of 4");
        y.set(4, 0);
        due.is(-14, y.cover(3, 1, 0), "4 alone");
        due.is(-13, y.cover(2, 1, 0), "3 alone");
    }

    /** The roll 1 is 60 wide and 20 long; 60 offcuts are kept. */
    private static void firstCutThatFails() {
        due.promise("4");
        CarpetCounter x = Crowd.kept(60, "59x1+1x30@0;1x30+59x1@0");
        due.is(-14, x.cover(2, 1, 0), "the first cut fails by 4, the second one would by 3");
        due.is(-13, x.cover(3, 1, 0), "the first cut fails by 3, the second one would by 4");
        due.is(-14, x.ifCovered(2, 1, 0, 0), "ifCovered by 4");
        due.is(-13, x.ifCovered(3, 1, 0, 0), "ifCovered by 3");
        CarpetCounter y = Crowd.kept(60, "60x1+59x1+1x30@0;60x15+1x6+1x1@0");
        due.is(-14, y.cover(2, 1, 0), "the second cut fails by 4, the third one would by 3");
        due.is(-13, y.cover(3, 1, 0), "the second cut fails by 3, the third one would by 4");
    }

    private static void clear() {
        due.promise("7");
        CarpetCounter x = shop();
        due.is(-1, x.clear(1, 0), "no roll goes ahead of a bad area");
        due.is(-1, x.clear(-1, 10000), "no roll goes ahead of a bad area");
        due.is(-2, x.clear(0, 0), "a bad area goes ahead of NONE");
        due.is(-2, x.clear(0, 10000), "a bad area goes ahead of NONE");
        due.is(-5, x.clear(0, 9999), "there are none");
    }

    private static void told() {
        CarpetCounter x = shop();
        due.promise("15");
        due.is(-1, x.rollOf(1, 10), "no roll goes ahead of what");
        due.promise("16");
        due.is(-1, x.offcut(0, 3), "no offcut goes ahead of what");
        due.promise("17");
        due.is(-2, x.sorted(-1), "a rank below 0 goes ahead of NONE");
        due.promise("18");
        due.is(-1, x.room(4, 9), "no room goes ahead of what");
        due.is(-2, x.room(1, 9), "what goes ahead of NONE");
        due.is(-5, x.room(1, 4), "NONE of a bare room");
        due.promise("19");
        due.is(-1, x.strip(4, -1, 0), "no room goes ahead of the rank");
        due.is(-1, x.strip(4, 0, 3), "no room goes ahead of what");
        due.is(-2, x.strip(1, -1, 0), "the rank goes ahead of NONE");
        due.is(-2, x.strip(1, 0, 3), "what goes ahead of NONE");
        due.is(-2, x.strip(0, 1, 3), "what goes ahead of NONE");
        due.is(-2, x.strip(0, 1, -1), "what goes ahead of NONE");
        due.is(-5, x.strip(0, 1, 0), "NONE of a rank");
        due.is(-5, x.strip(1, 0, 0), "NONE of a bare room");
    }

    private static void ifCovered() {
        due.promise("22");
        CarpetCounter x = shop();
        due.is(-1, x.ifCovered(4, 0, 2, 0), "no room goes ahead of the way");
        due.is(-1, x.ifCovered(4, 0, 0, 6), "no room goes ahead of what");
        due.is(-1, x.ifCovered(0, 1, 2, 0), "no roll goes ahead of the way");
        due.is(-1, x.ifCovered(0, 1, 0, 6), "no roll goes ahead of what");
        due.is(-2, x.ifCovered(0, 0, 2, 0), "the way goes ahead of the reasons");
        due.is(-2, x.ifCovered(0, 0, 0, 6), "what goes ahead of the reasons");
        due.is(-2, x.ifCovered(1, 0, 0, -1), "what goes ahead of the reasons");
        x.set(4, 1);
        due.is(-11, x.ifCovered(0, 0, 1, 0), "1 goes ahead of 2");
        due.is(-12, x.ifCovered(1, 0, 0, 5), "2 goes ahead of 3");
    }

    private static void best() {
        due.promise("23");
        CarpetCounter x = shop();
        due.is(-1, x.best(4, 10, 0), "no room goes ahead of the kind");
        due.is(-1, x.best(4, 0, 4), "no room goes ahead of what");
        due.is(-2, x.best(0, 10, 0), "the kind goes ahead of NONE");
        due.is(-2, x.best(0, 0, 4), "what goes ahead of NONE");
        due.is(-5, x.best(0, 0, 0), "NONE of a covered room");
        due.promise("24");
        due.is(-1, x.suits(0), "no offcut goes ahead of NONE");
    }
}
