/** Promises 9 to 11: the text and its faults. */
public final class TextsTest {
    private static final Due due = new Due();

    public static void main(String[] args) {
        type();
        clearText();
        faults();
        due.end();
    }

    private static void type() {
        due.promise("9");
        CarpetCounter x = new CarpetCounter();
        for (int i = 1; i <= 60; i++) {
            due.is(i, x.type((char) (i % 2 == 0 ? 255 : 0)), "type " + i);
        }
        due.is(-3, x.type('1'), "the 61st");
        due.is(60, x.count(10), "length");
        due.is(0, x.count(9), "no act");
        due.is(0, x.fault(), "fault");
        CarpetCounter y = new CarpetCounter();
        due.is(1, y.type(Character.MAX_VALUE), "any character");
        due.is(0, y.fault(), "fault");
    }

    private static void clearText() {
        due.promise("10");
        CarpetCounter x = new CarpetCounter();
        due.is(0, x.clearText(), "empty");
        Due.text(x, "1x1@0");
        due.is(5, x.clearText(), "clearText");
        due.is(0, x.count(10), "length");
        due.is(0, x.fault(), "fault");
        due.is(0, x.count(9), "no act");
        for (int i = 0; i < 61; i++) {
            x.type('1');
        }
        due.is(60, x.clearText(), "clearText");
        due.is(1, x.type('1'), "type");
    }

    private static void faults() {
        due.promise("11");
        fault("", 0);
        fault("1x1@0", -5);
        fault("60x60+59x10+1x9@3", -5);
        fault("1", 1);
        fault("60", 2);
        fault("61", 1);
        fault("70", 1);
        fault("600", 2);
        fault("100", 2);
        fault("0", 0);
        fault("01x1@0", 0);
        fault("x", 0);
        fault("1x", 2);
        fault("1xx", 2);
        fault("1x0", 2);
        fault("1x61@0", 3);
        fault("1x05", 2);
        fault("1X1@0", 1);
        fault("1x1", 3);
        fault("1x1@", 4);
        fault("1x1@4", 4);
        fault("1x1@-1", 4);
        fault("1x1@00", 5);
        fault("1x1;1x1@0", 3);
        fault("1x1@0;", 6);
        fault("1x1@0;;", 6);
        fault("1x1@0+", 5);
        fault("1x1@0 ", 5);
        fault(" 1x1@0", 0);
        fault("1x1+", 4);
        fault("1x1+@0", 4);
        fault("1x1++", 4);
        fault("1@1", 1);
        fault("1+1", 1);
        fault("1x1x1", 3);
        fault("1x1+1x1+1x1@1", -5);
        fault("1x1+1x1+1x1+1x1@1", 11);
        fault("1x1@0;1x1+1x1+1x1+", 17);
        fault("1x1+1x1@0;1x1+1x1+1x1@0", -5);
        fault("1x1@0;2x2@1;3x3@2;4x4@3;5x5@0;6x6@1;7x7@2;8x8@3;9x9@0;1x1@1;", 60);
        fault("1/1@0", 1);
        fault("1x:@0", 2);
        CarpetCounter x = new CarpetCounter();
        Due.text(x, "1x1@0;");
        x.fault();
        due.is(-106, x.rooms(), "rooms with a fault at the end");
        x.type('2');
        x.type('x');
        x.type('3');
        x.type('@');
        x.type('1');
        due.is(-5, x.fault(), "the fault goes");
        due.is(2, x.rooms(), "rooms");
        due.is(6, x.room(1, 1), "area");
        due.is(1, x.room(1, 0), "rectangles");
    }

    private static void fault(String text, int want) {
        CarpetCounter x = new CarpetCounter();
        Due.text(x, text);
        due.is(want, x.fault(), "fault of " + text);
        due.is(want, x.fault(), "fault of " + text + " again");
        due.is(text.length(), x.count(10), "length");
        due.is(0, x.count(1), "no rooms");
    }
}
