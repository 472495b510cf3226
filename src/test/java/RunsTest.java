import java.util.Random;

/**
 * Long runs of calls, each answer compared with the model's; the seeds are fixed.
 * They go beyond 512 calls, where the document asks nothing: the class answers on all the same.
 */
public final class RunsTest {
    private static final Due due = new Due();
    private static final int STEPS = 256;

    public static void main(String[] args) {
        int runs = args.length > 0 ? Integer.parseInt(args[0]) : 400;
        for (int seed = 0; seed < runs; seed++) {
            run(seed);
        }
        due.end();
    }

    private static void run(int seed) {
        due.promise("1 to 25, seed " + seed);
        Random random = new Random(seed);
        Script s = new Script(random, new CarpetCounter(), new Model());
        for (int i = 0; i < STEPS; i++) {
            s.call();
        }
        s.areasAgree();
        String told = Due.told(s.x);
        s.questions();
        due.same(told, s.x, "a question");
    }

    /** One run: its habits are drawn first, so that runs differ in their kind. */
    private static final class Script {
        final CarpetCounter x;
        private final Model m;
        private final Random random;
        private final int longest;
        private final int wildness;
        private final int kinds;
        private final int taking;
        private final boolean hoarding;

        Script(Random random, CarpetCounter x, Model m) {
            this.random = random;
            this.x = x;
            this.m = m;
            longest = new int[] {8, 20, 60, 60}[random.nextInt(4)];
            wildness = new int[] {10, 40, 1000}[random.nextInt(3)];
            kinds = 1 + random.nextInt(3);
            taking = 1 + random.nextInt(4);
            hoarding = random.nextInt(3) == 0;
            if (hoarding) {
                due.is(m.set(1, 1), x.set(1, 1), "set");
            }
        }

        private int in(int from, int to) {
            if (random.nextInt(wildness) == 0) {
                int[] edges = {from - 1, to + 1, from, to, -5, Integer.MIN_VALUE, Integer.MAX_VALUE};
                return edges[random.nextInt(edges.length)];
            }
            return from + random.nextInt(Math.max(1, to - from + 1));
        }

        private int room() {
            return in(0, m.now.rooms.size() - 1);
        }

        private int roll() {
            return in(0, m.now.rolls.size() - 1);
        }

        private int offcut() {
            int kept = m.now.offcuts.size();
            if (kept == 0 || random.nextInt(8) == 0) {
                return in(0, m.now.offcutsCame);
            }
            return m.now.offcuts.get(random.nextInt(kept)).number();
        }

        private String size() {
            return (1 + random.nextInt(longest)) + "x" + (1 + random.nextInt(longest));
        }

        private String text() {
            StringBuilder text = new StringBuilder();
            for (int i = random.nextInt(4); i >= 0; i--) {
                text.append(size());
                for (int j = random.nextInt(3); j > 0; j--) {
                    text.append('+').append(size());
                }
                text.append('@').append(random.nextInt(4)).append(i > 0 ? ";" : "");
            }
            if (random.nextInt(5) == 0) {
                String signs = "0123456789x+@; ";
                text.setCharAt(random.nextInt(text.length()), signs.charAt(random.nextInt(signs.length())));
            }
            return text.toString();
        }

        private void type(String text) {
            for (char c : text.toCharArray()) {
                due.is(m.type(c), x.type(c), "type(" + c + ")");
            }
        }

        void call() {
            int act = random.nextInt(20);
            if (act < 2 && m.now.rolls.size() < 4 + random.nextInt(9)) {
                int[] a = {in(0, kinds - 1), in(5, 60), in(1, 999), in(0, 99)};
                due.is(m.roll(a[0], a[1], a[2], a[3]), x.roll(a[0], a[1], a[2], a[3]), "roll");
            } else if (act < 3) {
                due.is(m.clearText(), x.clearText(), "clearText");
                type(text());
            } else if (act < 5) {
                due.is(m.fault(), x.fault(), "fault of " + m.text);
                due.is(m.rooms(), x.rooms(), "rooms of " + m.text);
            } else if (act < 10) {
                cover();
            } else if (act < 10 + taking) {
                int room = room();
                due.is(m.takeUp(room), x.takeUp(room), "takeUp");
            } else if (act < 15) {
                rarer();
            } else {
                question();
            }
        }

        private void cover() {
            int room = room();
            int roll = roll();
            int way = in(0, 1);
            for (int what = 0; what < 6; what++) {
                due.is(m.ifCovered(room, roll, way, what), x.ifCovered(room, roll, way, what), "ifCovered " + what);
            }
            due.is(m.cover(room, roll, way), x.cover(room, roll, way), "cover");
        }

        private void rarer() {
            switch (hoarding ? 5 + random.nextInt(4) : random.nextInt(8)) {
                case 0, 1 -> {
                    int offcut = offcut();
                    due.is(m.sell(offcut), x.sell(offcut), "sell");
                }
                case 2 -> {
                    int roll = roll();
                    int area = in(1, random.nextBoolean() ? 100 : 9999);
                    due.is(m.clear(roll, area), x.clear(roll, area), "clear");
                }
                case 3, 4 -> {
                    int which = in(0, 4);
                    int[] most = {2, 20, 99, 9, 1};
                    int value = in(0, which < 0 || which > 4 ? 3 : most[which]);
                    due.is(m.set(which, value), x.set(which, value), "set");
                }
                case 5, 6 -> due.is(m.undo(), x.undo(), "undo");
                default -> {
                    if (random.nextBoolean()) {
                        due.is(m.keep(), x.keep(), "keep");
                    } else {
                        due.is(m.restore(), x.restore(), "restore");
                    }
                }
            }
        }

        private void question() {
            int roll = roll();
            int room = room();
            int offcut = offcut();
            int rank = in(0, 40);
            int kind = in(0, kinds - 1);
            int what = in(0, 16);
            due.is(m.rollOf(roll, what), x.rollOf(roll, what), "rollOf");
            due.is(m.offcut(offcut, what), x.offcut(offcut, what), "offcut");
            due.is(m.sorted(rank), x.sorted(rank), "sorted");
            due.is(m.room(room, what), x.room(room, what), "room");
            due.is(m.strip(room, rank, what), x.strip(room, rank, what), "strip");
            due.is(m.count(what), x.count(what), "count");
            due.isDouble(m.wasted(roll), x.wasted(roll), "wasted");
            due.is(m.best(room, kind, what % 5), x.best(room, kind, what % 5), "best");
            due.is(m.suits(offcut), x.suits(offcut), "suits");
            due.is(m.coverAll(kind, what % 3), x.coverAll(kind, what % 3), "coverAll");
        }

        void questions() {
            for (int what = 0; what < 16; what++) {
                due.is(m.count(what), x.count(what), "count " + what);
                for (int i = 0; i < 301; i++) {
                    due.is(m.rollOf(i, what), x.rollOf(i, what), "rollOf");
                    due.is(m.room(i, what), x.room(i, what), "room");
                    due.is(m.offcut(i, what), x.offcut(i, what), "offcut");
                }
                for (int room = 0; room < 20; room++) {
                    for (int rank = 0; rank < 37; rank++) {
                        due.is(m.strip(room, rank, what), x.strip(room, rank, what), "strip");
                    }
                    due.is(m.best(room, 0, what), x.best(room, 0, what), "best");
                }
                due.is(m.coverAll(0, what), x.coverAll(0, what), "coverAll");
            }
            for (int i = 0; i < 300; i++) {
                due.is(m.sorted(i), x.sorted(i), "sorted");
                due.is(m.suits(i), x.suits(i), "suits");
            }
        }

        /** What came of a roll is left, kept, laid, wasted or sold. */
        void areasAgree() {
            for (int roll = 0; roll < x.count(0); roll++) {
                int sum = x.rollOf(roll, 1) * x.rollOf(roll, 2);
                for (int what = 5; what < 9; what++) {
                    sum += x.rollOf(roll, what);
                }
                due.is(x.rollOf(roll, 9), sum, "the area of roll " + roll);
            }
            due.is(x.count(6), x.count(7), "the area that is told in two ways");
        }
    }
}
