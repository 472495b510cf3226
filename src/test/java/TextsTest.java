/** Promises 9 to 11: the text and its faults. */
public final class TextsTest {
    private static final Due due = new Due();

    public static void main(String[] args) {
        type();
        clearText();
        faults();
        allowedSigns();
        sizesAndSides();
        endsTooEarly();
        firstFault();
        faultAtTheLastPlace();
        due.end();
    }

    private static void type() {
        due.promise("9");
        CarpetCounter x = new CarpetCounter();
        for (int i = 1; i <= 60; i++) {
            due.is(i, x.type((char) (i % 2 == 0 ? 255 : 0)), "type " + i);
        }
        due.is(-3, x.type('1'), "the 61st");
        due.is(60, x.count(10), "length");
        due.is(0, x.count(9), "no act");
        due.is(0, x.fault(), "fault");
        CarpetCounter y = new CarpetCounter();
        due.is(1, y.type(Character.MAX_VALUE), "any character");
        due.is(0, y.fault(), "fault");
    }

    private static void clearText() {
        due.promise("10");
        CarpetCounter x = new CarpetCounter();
        due.is(0, x.clearText(), "empty");
        Due.text(x, "1x1@0");
        due.is(5, x.clearText(), "clearText");
        due.is(0, x.count(10), "length");
        due.is(0, x.fault(), "fault");
        due.is(0, x.count(9), "no act");
        for (int i = 0; i < 61; i++) {
            x.type('1');
        }
        due.is(60, x.clearText(), "clearText");
        due.is(1, x.type('1'), "type");
    }

    private static void faults() {
        due.promise("11");
        fault("", 0);
        fault("1x1@0", -5);
        fault("60x60+59x10+1x9@3", -5);
        fault("1", 1);
        fault("60", 2);
        fault("61", 1);
        fault("70", 1);
        fault("600", 2);
        fault("100", 2);
        fault("0", 0);
        fault("01x1@0", 0);
        fault("x", 0);
        fault("1x", 2);
        fault("1xx", 2);
        fault("1x0", 2);
        fault("1x61@0", 3);
        fault("1x05", 2);
        fault("1X1@0", 1);
        fault("1x1", 3);
        fault("1x1@", 4);
        fault("1x1@4", 4);
        fault("1x1@-1", 4);
        fault("1x1@00", 5);
        fault("1x1;1x1@0", 3);
        fault("1x1@0;", 6);
        fault("1x1@0;;", 6);
        fault("1x1@0+", 5);
        fault("1x1@0 ", 5);
        fault(" 1x1@0", 0);
        fault("1x1+", 4);
        fault("1x1+@0", 4);
        fault("1x1++", 4);
        fault("1@1", 1);
        fault("1+1", 1);
        fault("1x1x1", 3);
        fault("1x1+1x1+1x1@1", -5);
        fault("1x1+1x1+1x1+1x1@1", 11);
        fault("1x1@0;1x1+1x1+1x1+", 17);
        fault("1x1+1x1@0;1x1+1x1+1x1@0", -5);
        fault("1x1@0;2x2@1;3x3@2;4x4@3;5x5@0;6x6@1;7x7@2;8x8@3;9x9@0;1x1@1;", 60);
        fault("1/1@0", 1);
        fault("1x:@0", 2);
        CarpetCounter x = new CarpetCounter();
        Due.text(x, "1x1@0;");
        x.fault();
        due.is(-106, x.rooms(), "rooms with a fault at the end");
        x.type('2');
        x.type('x');
        x.type('3');
        x.type('@');
        x.type('1');
        due.is(-5, x.fault(), "the fault goes");
        due.is(2, x.rooms(), "rooms");
        due.is(6, x.room(1, 1), "area");
        due.is(1, x.room(1, 0), "rectangles");
    }

    private static void fault(String text, int want) {
        CarpetCounter x = new CarpetCounter();
        Due.text(x, text);
        due.is(want, x.fault(), "fault of " + text);
        due.is(want, x.fault(), "fault of " + text + " again");
        due.is(text.length(), x.count(10), "length");
        due.is(0, x.count(1), "no rooms");
    }

    /** At each place of the grammar every sign but those that are told is the fault. */
    private static void allowedSigns() {
        due.promise("11, the first character that is not allowed at its place");
        String digits = "0123456789";
        allowed("", "123456789");
        allowed("1", digits + "x");
        allowed("5", digits + "x");
        allowed("6", "0x");
        allowed("7", "x");
        allowed("9", "x");
        allowed("10", "x");
        allowed("59", "x");
        allowed("60", "x");
        allowed("2x", "123456789");
        allowed("2x1", digits + "+@");
        allowed("2x5", digits + "+@");
        allowed("2x6", "0+@");
        allowed("2x7", "+@");
        allowed("2x60", "+@");
        allowed("2x3+", "123456789");
        allowed("2x3+5", digits + "x");
        allowed("2x3+60x", "123456789");
        allowed("2x3+60x60", "+@");
        allowed("2x3+4x5+", "123456789");
        allowed("2x3+4x5+60", "x");
        allowed("2x3+4x5+6x", "123456789");
        allowed("2x3+4x5+6x5", digits + "@");
        allowed("2x3+4x5+6x7", "@");
        allowed("2x3@", "0123");
        allowed("2x3+4x5+6x7@", "0123");
        allowed("2x3@0", ";");
        allowed("2x3+4x5@3", ";");
        allowed("2x3+4x5+6x7@2", ";");
        allowed("2x3@0;", "123456789");
        allowed("2x3+4x5+6x7@2;6", "0x");
        allowed("2x3+4x5+6x7@2;6x7+8x9", "+@");
        allowed("2x3+4x5+6x7@2;6x7+8x9+1x7", "@");
        allowed("2x3+4x5+6x7@2;6x7+8x9+1x7@1", ";");
    }

    private static void allowed(String ahead, String signs) {
        for (int sign = 0; sign < 300; sign++) {
            allowed(ahead, signs, (char) sign);
        }
        // signs that look like digits, or would be some in a narrower number
        char[] far = {0x0661, 0xFF11, 0x0131, 0x0178, 0x3130, 0x8031, 0xFF78, 0xFFFF};
        for (char sign : far) {
            allowed(ahead, signs, sign);
        }
    }

    private static void allowed(String ahead, String signs, char sign) {
        CarpetCounter x = new CarpetCounter();
        Due.text(x, ahead);
        due.is(ahead.length() + 1, x.type(sign), "type of the sign " + (int) sign);
        boolean isFault = x.fault() == ahead.length();
        String call = "the sign " + (int) sign + " behind " + ahead;
        due.is(signs.indexOf(sign) < 0 ? 1 : 0, isFault ? 1 : 0, "a fault at " + call);
        if (isFault) {
            due.is(-100 - ahead.length(), x.rooms(), "rooms with " + call);
            due.is(0, x.count(1), "no rooms");
        }
    }

    /** All numbers from 0 to 130, at each place of a number. */
    private static void sizesAndSides() {
        due.promise("11, each 1 to 60; the side, 0 to 3");
        for (int number = 0; number <= 130; number++) {
            int digits = number < 10 ? 1 : number < 61 ? 2 : number < 100 ? 1 : 2;
            boolean isSize = number >= 1 && number <= 60;
            int fault = number == 0 ? 0 : digits;
            String[] ahead = {"", "7x", "7x8+", "7x8+9x", "7x8+9x8+", "7x8+9x8+7x", "1x1@0;", "1x1@0;1x"};
            String[] behind = {"x9@1", "@1", "x9@1", "@1", "x9@1", "@1", "x9@1", "@1"};
            for (int i = 0; i < ahead.length; i++) {
                fault(ahead[i] + number + behind[i], isSize ? -5 : ahead[i].length() + fault);
            }
            String side = "7x8@" + number;
            fault(side, number < 4 ? -5 : number < 10 ? 4 : number < 40 ? 5 : number < 100 ? 4 : 5);
        }
        CarpetCounter x = new CarpetCounter();
        due.is(2, Due.rooms(x, "1x60@0;60x1+1x1+60x60@3"), "rooms");
        due.is(60, x.room(0, 1), "the area of the room 0");
        due.is(60 + 1 + 3600, x.room(1, 1), "the area of the room 1");
    }

    /** Every beginning of a text that is no text itself ends too early. */
    private static void endsTooEarly() {
        due.promise("11, the length of the text if it ends too early");
        String text = "12x34+5x6+60x60@3;7x8@0;10x9+20x1@2";
        for (int length = 0; length <= text.length(); length++) {
            boolean isText = length == 17 || length == 23 || length == 35;
            fault(text.substring(0, length), isText ? -5 : length);
        }
    }

    /** Of several faults the first one is told, and a fault goes ahead of the end. */
    private static void firstFault() {
        due.promise("11, the first character");
        fault("0x0@9", 0);
        fault("1x0@9", 2);
        fault("1x1@9;0", 4);
        fault("1x1@0;0x0", 6);
        fault("1x1@0:1x1@0:", 5);
        fault("1x1@0x", 5);
        fault("61x61@4", 1);
        fault("??", 0);
    }

    private static void faultAtTheLastPlace() {
        due.promise("11, of at most 60 characters");
        String fiftyNine = "1x1@0;1x1@0;1x1@0;1x1@0;1x1@0;1x1@0;1x1@0;1x1@0;1x1@0;1x1@0";
        fault(fiftyNine, -5);
        fault(fiftyNine + "0", 59);
        fault(fiftyNine + ";", 60);
        fault("1" + fiftyNine, -5);
        fault("7" + fiftyNine, 1);
        CarpetCounter x = new CarpetCounter();
        Due.text(x, fiftyNine + "0");
        due.is(-159, x.rooms(), "rooms with the fault 59");
        Due.text(x, fiftyNine + ";");
        due.is(-160, x.rooms(), "rooms with the fault 60");
        due.is(-3, x.type('1'), "type");
        due.is(-160, x.rooms(), "rooms with the fault 60");
    }
}
