import java.util.ArrayList;
import java.util.Comparator;
import java.util.List;
import java.util.regex.Matcher;
import java.util.regex.Pattern;

/** The document told once more, with the Java library and no thrift, to compare with. */
final class Model {
    record Roll(int kind, int width, int left, int price, int area, int waste, int sold) {
        Roll with(int newLeft, int moreWaste, int moreSold) {
            return new Roll(kind, width, newLeft, price, area, waste + moreWaste, sold + moreSold);
        }
    }

    record Offcut(int number, int roll, int width, int length) {
        int area() {
            return width * length;
        }
    }

    record Size(int westEast, int southNorth) { }

    record Strip(int width, int length, int source) { }

    record Covering(int roll, int way, List<Strip> strips, int seams, int price) { }

    record Room(List<Size> sizes, int side, Covering covering) {
        int area() {
            return sizes.stream().mapToInt(s -> s.westEast() * s.southNorth()).sum();
        }
    }

    static final class State {
        int[] settings = {0, 3, 2, 3, 0};
        List<Roll> rolls = new ArrayList<>();
        List<Offcut> offcuts = new ArrayList<>();
        int offcutsCame;
        List<Room> rooms = new ArrayList<>();
        int coins;

        State copy() {
            State s = new State();
            s.settings = settings.clone();
            s.rolls = new ArrayList<>(rolls);
            s.offcuts = new ArrayList<>(offcuts);
            s.offcutsCame = offcutsCame;
            s.rooms = new ArrayList<>(rooms);
            s.coins = coins;
            return s;
        }

        void waste(int roll, int area) {
            rolls.set(roll, rolls.get(roll).with(rolls.get(roll).left(), area, 0));
        }
    }

    private static final String NUMBER = "(?:[1-9]|[1-5][0-9]|60)";
    private static final String RECTANGLE = NUMBER + "x" + NUMBER;
    private static final String ROOM = RECTANGLE + "(?:\\+" + RECTANGLE + "){0,2}@[0-3]";
    private static final Pattern TEXT = Pattern.compile(ROOM + "(?:;" + ROOM + ")*");

    State now = new State();
    State snapshot;
    final List<State> history = new ArrayList<>();
    String text = "";

    private void record(State before) {
        history.add(before);
        if (history.size() > 4) {
            history.remove(0);
        }
    }

    private static boolean out(int value, int from, int to) {
        return value < from || value > to;
    }

    int roll(int kind, int width, int length, int price) {
        if (out(kind, 0, 9) || out(width, 5, 60) || out(length, 1, 999) || out(price, 0, 99)) {
            return -2;
        }
        if (now.rolls.size() == 12) {
            return -3;
        }
        record(now.copy());
        now.rolls.add(new Roll(kind, width, length, price, width * length, 0, 0));
        return now.rolls.size() - 1;
    }

    int rooms() {
        if (fault() != -5) {
            return -100 - fault();
        }
        String[] parts = text.split(";");
        if (now.rooms.size() + parts.length > 20) {
            return -3;
        }
        record(now.copy());
        for (String part : parts) {
            String[] halves = part.split("@");
            List<Size> sizes = new ArrayList<>();
            for (String rectangle : halves[0].split("\\+")) {
                String[] sides = rectangle.split("x");
                sizes.add(new Size(Integer.parseInt(sides[0]), Integer.parseInt(sides[1])));
            }
            now.rooms.add(new Room(sizes, Integer.parseInt(halves[1]), null));
        }
        return parts.length;
    }

    private boolean unknownRoom(int room) {
        return out(room, 0, now.rooms.size() - 1);
    }

    private boolean unknownRoll(int roll) {
        return out(roll, 0, now.rolls.size() - 1);
    }

    private static boolean across(Room room, int way) {
        return (room.side() + way) % 2 == 1;
    }

    /** Covers in the state itself; a negative answer leaves it spoilt. */
    private static int lay(State s, int number, int rollNumber, int way) {
        Room room = s.rooms.get(number);
        if (room.covering() != null) {
            return -11;
        }
        if (s.settings[4] == 1 && across(room, way)) {
            return -12;
        }
        int full = s.rolls.get(rollNumber).width();
        List<Strip> strips = new ArrayList<>();
        int seams = 0;
        for (Size size : room.sizes()) {
            int wide = way == 0 ? size.westEast() : size.southNorth();
            int length = way == 0 ? size.southNorth() : size.westEast();
            for (int at = 0; at < wide; at += full) {
                int width = wide - at > full ? full : wide - at;
                int source = cut(s, rollNumber, width, length);
                if (source < -5) {
                    return source;
                }
                strips.add(new Strip(width, length, source));
                seams += at > 0 ? length : 0;
            }
        }
        int seamPrice = s.settings[2] * (across(room, way) ? s.settings[3] : 1);
        int price = room.area() * s.rolls.get(rollNumber).price() + seams * seamPrice;
        s.rooms.set(number, new Room(room.sizes(), room.side(),
                new Covering(rollNumber, way, strips, seams, price)));
        s.coins += price;
        return price;
    }

    private static int cut(State s, int rollNumber, int w, int l) {
        Offcut from = s.offcuts.stream()
                .filter(o -> o.roll() == rollNumber && o.width() >= w && o.length() >= l)
                .min(Comparator.comparingInt(Offcut::area).thenComparingInt(Offcut::number))
                .orElse(null);
        Roll roll = s.rolls.get(rollNumber);
        if (from == null) {
            if (roll.left() < l) {
                return -13;
            }
            s.rolls.set(rollNumber, roll.with(roll.left() - l, 0, 0));
            from = new Offcut(-5, rollNumber, roll.width(), l);
        } else {
            s.offcuts.remove(from);
        }
        int bigW = from.width();
        int bigL = from.length();
        int[][] zero = {{bigW - w, bigL}, {w, bigL - l}};
        int[][] one = {{bigW - w, l}, {bigW, bigL - l}};
        int rule = s.settings[0];
        int[][] rests = rule == 0 || rule == 2 && greatest(zero) >= greatest(one) ? zero : one;
        for (int[] rest : rests) {
            if (Math.min(rest[0], rest[1]) < s.settings[1]) {
                s.waste(rollNumber, rest[0] * rest[1]);
            } else {
                s.offcuts.add(new Offcut(s.offcutsCame++, rollNumber, rest[0], rest[1]));
            }
        }
        return s.offcuts.size() > 60 || s.offcutsCame > 300 ? -14 : from.number();
    }

    private static int greatest(int[][] rests) {
        return Math.max(rests[0][0] * rests[0][1], rests[1][0] * rests[1][1]);
    }

    int cover(int room, int roll, int way) {
        if (unknownRoom(room) || unknownRoll(roll)) {
            return -1;
        }
        if (out(way, 0, 1)) {
            return -2;
        }
        State after = now.copy();
        int price = lay(after, room, roll, way);
        if (price >= 0) {
            record(now);
            now = after;
        }
        return price;
    }

    int takeUp(int number) {
        if (unknownRoom(number)) {
            return -1;
        }
        Room room = now.rooms.get(number);
        if (room.covering() == null) {
            return -5;
        }
        record(now.copy());
        int come = 0;
        int roll = room.covering().roll();
        for (Strip strip : room.covering().strips()) {
            if (now.offcuts.size() < 60 && now.offcutsCame < 300) {
                now.offcuts.add(new Offcut(now.offcutsCame++, roll, strip.width(), strip.length()));
                come++;
            } else {
                now.waste(roll, strip.width() * strip.length());
            }
        }
        now.rooms.set(number, new Room(room.sizes(), room.side(), null));
        return come;
    }

    private Offcut find(int number) {
        for (Offcut o : now.offcuts) {
            if (o.number() == number) {
                return o;
            }
        }
        return null;
    }

    int sell(int number) {
        Offcut o = find(number);
        if (o == null) {
            return -1;
        }
        record(now.copy());
        Roll roll = now.rolls.get(o.roll());
        now.offcuts.remove(o);
        now.rolls.set(o.roll(), roll.with(roll.left(), 0, o.area()));
        int price = (int) Math.floor(o.area() * roll.price() / 2.0);
        now.coins += price;
        return price;
    }

    int clear(int roll, int area) {
        if (unknownRoll(roll)) {
            return -1;
        }
        if (out(area, 1, 9999)) {
            return -2;
        }
        List<Offcut> small = now.offcuts.stream().filter(o -> o.roll() == roll && o.area() < area).toList();
        if (small.isEmpty()) {
            return -5;
        }
        record(now.copy());
        now.offcuts.removeAll(small);
        small.forEach(o -> now.waste(roll, o.area()));
        return small.size();
    }

    int set(int which, int value) {
        int[][] ranges = {{0, 2}, {1, 20}, {0, 99}, {1, 9}, {0, 1}};
        if (out(which, 0, 4) || out(value, ranges[which][0], ranges[which][1])) {
            return -2;
        }
        int previous = now.settings[which];
        if (previous == value) {
            return -5;
        }
        record(now.copy());
        now.settings[which] = value;
        return previous;
    }

    int type(char character) {
        if (text.length() == 60) {
            return -3;
        }
        text += character;
        return text.length();
    }

    int clearText() {
        int length = text.length();
        text = "";
        return length;
    }

    int fault() {
        for (int i = 0; i < text.length(); i++) {
            Matcher m = TEXT.matcher(text.substring(0, i + 1));
            if (!m.matches() && !m.hitEnd()) {
                return i;
            }
        }
        return TEXT.matcher(text).matches() ? -5 : text.length();
    }

    int undo() {
        if (history.isEmpty()) {
            return -5;
        }
        now = history.remove(history.size() - 1);
        return history.size();
    }

    int keep() {
        snapshot = now.copy();
        return now.rooms.size();
    }

    int restore() {
        if (snapshot == null) {
            return -5;
        }
        record(now);
        now = snapshot.copy();
        return now.rooms.size();
    }

    private int laid(int roll) {
        return now.rooms.stream().filter(r -> r.covering() != null && r.covering().roll() == roll)
                .flatMap(r -> r.covering().strips().stream()).mapToInt(s -> s.width() * s.length()).sum();
    }

    int rollOf(int number, int what) {
        if (unknownRoll(number)) {
            return -1;
        }
        if (out(what, 0, 9)) {
            return -2;
        }
        Roll r = now.rolls.get(number);
        List<Offcut> own = now.offcuts.stream().filter(o -> o.roll() == number).toList();
        return new int[] {r.kind(), r.width(), r.left(), r.price(), own.size(),
            own.stream().mapToInt(Offcut::area).sum(), laid(number), r.waste(), r.sold(), r.area()}[what];
    }

    int offcut(int number, int what) {
        Offcut o = find(number);
        if (o == null) {
            return -1;
        }
        return out(what, 0, 2) ? -2 : new int[] {o.roll(), o.width(), o.length()}[what];
    }

    int sorted(int rank) {
        if (rank < 0) {
            return -2;
        }
        List<Offcut> order = new ArrayList<>(now.offcuts);
        order.sort(Comparator.comparingInt(Offcut::area).thenComparingInt(Offcut::number));
        return rank < order.size() ? order.get(rank).number() : -5;
    }

    int room(int number, int what) {
        if (unknownRoom(number)) {
            return -1;
        }
        if (out(what, 0, 8)) {
            return -2;
        }
        Room r = now.rooms.get(number);
        Covering c = r.covering();
        if (c == null) {
            return what > 3 ? -5 : new int[] {r.sizes().size(), r.area(), r.side(), 0}[what];
        }
        return new int[] {r.sizes().size(), r.area(), r.side(), 1, c.roll(), c.way(),
            c.strips().size(), c.seams(), c.price()}[what];
    }

    int strip(int number, int rank, int what) {
        if (unknownRoom(number)) {
            return -1;
        }
        if (rank < 0 || out(what, 0, 2)) {
            return -2;
        }
        Covering c = now.rooms.get(number).covering();
        if (c == null || rank >= c.strips().size()) {
            return -5;
        }
        Strip s = c.strips().get(rank);
        return new int[] {s.width(), s.length(), s.source()}[what];
    }

    int count(int what) {
        if (out(what, 0, 15)) {
            return -2;
        }
        int laid = 0;
        int waste = 0;
        for (int i = 0; i < now.rolls.size(); i++) {
            laid += laid(i);
            waste += now.rolls.get(i).waste();
        }
        List<Room> covered = now.rooms.stream().filter(r -> r.covering() != null).toList();
        int[] s = now.settings;
        return new int[] {now.rolls.size(), now.rooms.size(), covered.size(), now.offcuts.size(),
            now.offcutsCame, waste, laid, covered.stream().mapToInt(Room::area).sum(), now.coins,
            history.size(), text.length(), s[0], s[1], s[2], s[3], s[4]}[what];
    }

    double wasted(int roll) {
        return unknownRoll(roll) ? -1.0 : (double) now.rolls.get(roll).waste() / now.rolls.get(roll).area();
    }

    int ifCovered(int room, int roll, int way, int what) {
        if (unknownRoom(room) || unknownRoll(roll)) {
            return -1;
        }
        if (out(way, 0, 1) || out(what, 0, 5)) {
            return -2;
        }
        State after = now.copy();
        int price = lay(after, room, roll, way);
        if (price < 0) {
            return price;
        }
        Covering c = after.rooms.get(room).covering();
        return new int[] {price, c.strips().size(), c.seams(),
            after.rolls.get(roll).waste() - now.rolls.get(roll).waste(),
            now.rolls.get(roll).left() - after.rolls.get(roll).left(),
            (int) c.strips().stream().filter(s -> s.source() >= 0).count()}[what];
    }

    /** Roll, way, waste and price of the best covering, or null. */
    private static int[] choose(State s, int room, int kind) {
        List<int[]> ways = new ArrayList<>();
        for (int roll = 0; roll < s.rolls.size(); roll++) {
            for (int way = 0; way < 2 && s.rolls.get(roll).kind() == kind; way++) {
                State after = s.copy();
                int price = lay(after, room, roll, way);
                if (price >= 0) {
                    ways.add(new int[] {roll, way, after.rolls.get(roll).waste() - s.rolls.get(roll).waste(), price});
                }
            }
        }
        return ways.stream().min(Comparator.<int[]>comparingInt(w -> w[2]).thenComparingInt(w -> w[3])
                .thenComparingInt(w -> w[0]).thenComparingInt(w -> w[1])).orElse(null);
    }

    int best(int room, int kind, int what) {
        if (unknownRoom(room)) {
            return -1;
        }
        if (out(kind, 0, 9) || out(what, 0, 3)) {
            return -2;
        }
        int[] chosen = choose(now, room, kind);
        return chosen == null ? -5 : chosen[what];
    }

    int suits(int number) {
        Offcut o = find(number);
        if (o == null) {
            return -1;
        }
        for (int i = 0; i < now.rooms.size(); i++) {
            Room r = now.rooms.get(i);
            Size s = r.sizes().get(0);
            boolean zero = s.westEast() <= o.width() && s.southNorth() <= o.length();
            boolean one = s.southNorth() <= o.width() && s.westEast() <= o.length();
            if (now.settings[4] == 1) {
                zero = zero && !across(r, 0);
                one = one && !across(r, 1);
            }
            if (r.covering() == null && r.sizes().size() == 1 && (zero || one)) {
                return i;
            }
        }
        return -5;
    }

    int coverAll(int kind, int what) {
        if (out(kind, 0, 9) || out(what, 0, 1)) {
            return -2;
        }
        State after = now.copy();
        int[] sums = new int[2];
        for (int room = 0; room < after.rooms.size(); room++) {
            int[] chosen = choose(after, room, kind);
            if (chosen != null) {
                lay(after, room, chosen[0], chosen[1]);
                sums[0]++;
                sums[1] += chosen[2];
            }
        }
        return sums[what];
    }
}
