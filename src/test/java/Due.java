/** Counts the answers that are not as due, and types whole texts. */
final class Due {
    private int wrong;
    private int seen;
    private String promise = "";

    void promise(String title) {
        promise = title;
    }

    void is(long want, long got, String call) {
        seen++;
        if (got != want) {
            wrong++;
            System.out.println(promise + ": " + call + " answered " + got + ", due is " + want);
        }
    }

    void isDouble(double want, double got, String call) {
        seen++;
        if (got != want) {
            wrong++;
            System.out.println(promise + ": " + call + " answered " + got + ", due is " + want);
        }
    }

    void end() {
        System.out.println(seen + " answers, " + wrong + " not as due");
        if (wrong != 0) {
            System.exit(1);
        }
    }

    static void text(CarpetCounter x, String text) {
        x.clearText();
        for (int i = 0; i < text.length(); i++) {
            x.type(text.charAt(i));
        }
    }

    static int rooms(CarpetCounter x, String text) {
        text(x, text);
        return x.rooms();
    }

    static CarpetCounter with(int kind, int width, int length, int price, String text) {
        CarpetCounter x = new CarpetCounter();
        x.roll(kind, width, length, price);
        rooms(x, text);
        return x;
    }

    /**
     * All that the object tells, to see that a call changed nothing. These are more than
     * 512 calls: what such calls answer is free by the document, but the class answers on.
     */
    static String told(CarpetCounter x) {
        return x.count(9) + " " + toldButHistory(x);
    }

    static String toldButHistory(CarpetCounter x) {
        StringBuilder told = new StringBuilder();
        for (int what = 0; what < 16; what++) {
            told.append(what == 9 ? 0 : x.count(what)).append(' ');
        }
        for (int roll = 0; roll < 12; roll++) {
            for (int what = 0; what < 10; what++) {
                told.append(x.rollOf(roll, what)).append(' ');
            }
        }
        for (int offcut = 0; offcut < 300; offcut++) {
            for (int what = 0; what < 3; what++) {
                told.append(x.offcut(offcut, what)).append(' ');
            }
        }
        for (int room = 0; room < 20; room++) {
            for (int what = 0; what < 9; what++) {
                told.append(x.room(room, what)).append(' ');
            }
            for (int rank = 0; rank < 36; rank++) {
                for (int what = 0; what < 3; what++) {
                    told.append(x.strip(room, rank, what)).append(' ');
                }
            }
        }
        return told.append(x.fault()).toString();
    }

    void same(String before, CarpetCounter x, String call) {
        sameTold(before, told(x), call);
    }

    void sameTold(String before, String after, String call) {
        seen++;
        if (!before.equals(after)) {
            wrong++;
            System.out.println(promise + ": " + call + " changed something");
        }
    }
}
