/** A counter for carpet: rolls, the rooms that they cover, offcuts, waste and coins. */
public final class CarpetCounter {
    public static final int UNKNOWN = -1;
    public static final int BAD_VALUE = -2;
    public static final int FULL = -3;
    public static final int NONE = -5;

    private static final int MOST_ROLLS = 12;
    private static final int MOST_ROOMS = 20;
    private static final int MOST_RECTANGLES = 3;
    private static final int LONGEST_SIDE = 60;
    private static final int MOST_STRIPS = 36; // three rectangles 60 wide, from a roll 5 wide
    private static final int MOST_KEPT = 60;
    private static final int MOST_OFFCUTS = 300;
    private static final int MOST_CHARACTERS = 60;
    private static final int MOST_STATES = 4;

    private static final int SETTINGS = 5;
    private static final int RULE = 0;
    private static final int LEAST_SIDE = 1;
    private static final int SEAM_PRICE = 2;
    private static final int ACROSS_TIMES = 3;
    private static final int WITH_LIGHT = 4;

    private static final int IS_COVERED = -11;
    private static final int IS_ACROSS = -12;
    private static final int IS_TOO_SHORT = -13;
    private static final int IS_CROWDED = -14;
    private static final int FAULT_IN_TEXT = -100;

    private final Book book = new Book();
    private final Book snapshot = new Book();
    private final Book trial = new Book();
    private final Book plan = new Book();
    private final History history = new History();
    private final RoomText text = new RoomText();
    private final Choice choice = new Choice();
    private boolean hasSnapshot;

    public CarpetCounter() {
    }

    // ---- rolls, rooms

    public int roll(int kind, int width, int length, int price) {
        if (!isKind(kind) || width < 5 || width > 60) {
            return BAD_VALUE;
        }
        if (length < 1 || length > 999 || price < 0 || price > 99) {
            return BAD_VALUE;
        }
        if (book.rolls.came >= MOST_ROLLS) {
            return FULL;
        }
        history.record(book);
        return book.rolls.append(kind, width, length, price);
    }

    public int rooms() {
        int fault = text.read();
        if (fault >= 0) {
            return FAULT_IN_TEXT - fault;
        }
        int coming = text.found.came;
        if (book.rooms.came + coming > MOST_ROOMS) {
            return FULL;
        }
        history.record(book);
        book.rooms.appendAll(text.found);
        return coming;
    }

    public int cover(int room, int roll, int way) {
        if (!book.rooms.has(room) || !book.rolls.has(roll)) {
            return UNKNOWN;
        }
        if (!isWay(way)) {
            return BAD_VALUE;
        }
        trial.copyFrom(book);
        int price = trial.lay(room, roll, way);
        if (price < 0) {
            return price;
        }
        history.record(book);
        book.copyFrom(trial);
        return price;
    }

    public int takeUp(int room) {
        if (!book.rooms.has(room)) {
            return UNKNOWN;
        }
        if (!book.rooms.isCovered(room)) {
            return NONE;
        }
        history.record(book);
        return book.lift(room);
    }

    public int sell(int offcut) {
        int place = book.offcuts.placeOf(offcut);
        if (place < 0) {
            return UNKNOWN;
        }
        history.record(book);
        return book.sellAt(place);
    }

    public int clear(int roll, int area) {
        if (!book.rolls.has(roll)) {
            return UNKNOWN;
        }
        if (area < 1 || area > 9999) {
            return BAD_VALUE;
        }
        if (book.offcuts.smallOnes(roll, area) == 0) {
            return NONE;
        }
        history.record(book);
        return book.throwSmallOnes(roll, area);
    }

    public int set(int which, int value) {
        if (!isSetting(which, value)) {
            return BAD_VALUE;
        }
        int previous = book.settings.at(which);
        if (value == previous) {
            return NONE;
        }
        history.record(book);
        book.settings.put(which, value);
        return previous;
    }

    private static boolean isSetting(int which, int value) {
        switch (which) {
            case RULE: return value >= 0 && value <= 2;
            case LEAST_SIDE: return value >= 1 && value <= 20;
            case SEAM_PRICE: return value >= 0 && value <= 99;
            case ACROSS_TIMES: return value >= 1 && value <= 9;
            case WITH_LIGHT: return value == 0 || value == 1;
            default: return false;
        }
    }

    // ---- texts

    public int type(char character) {
        return text.append(character) ? text.length : FULL;
    }

    public int clearText() {
        int had = text.length;
        text.length = 0;
        return had;
    }

    public int fault() {
        return text.read();
    }

    // ---- history

    public int undo() {
        if (history.length == 0) {
            return NONE;
        }
        history.moveLatestTo(book);
        return history.length;
    }

    public int keep() {
        snapshot.copyFrom(book);
        hasSnapshot = true;
        return book.rooms.came;
    }

    public int restore() {
        if (!hasSnapshot) {
            return NONE;
        }
        history.record(book);
        book.copyFrom(snapshot);
        return book.rooms.came;
    }

    // ---- what is told

    public int rollOf(int roll, int what) {
        if (!book.rolls.has(roll)) {
            return UNKNOWN;
        }
        switch (what) {
            case 0: return book.rolls.kind.at(roll);
            case 1: return book.rolls.width.at(roll);
            case 2: return book.rolls.left.at(roll);
            case 3: return book.rolls.price.at(roll);
            case 4: return book.offcuts.keptOf(roll);
            case 5: return book.offcuts.areaOf(roll);
            case 6: return book.rolls.laid.at(roll);
            case 7: return book.rolls.waste.at(roll);
            case 8: return book.rolls.sold.at(roll);
            case 9: return book.rolls.firstArea.at(roll);
            default: return BAD_VALUE;
        }
    }

    public int offcut(int offcut, int what) {
        int place = book.offcuts.placeOf(offcut);
        if (place < 0) {
            return UNKNOWN;
        }
        switch (what) {
            case 0: return book.offcuts.roll.at(place);
            case 1: return book.offcuts.width.at(place);
            case 2: return book.offcuts.length.at(place);
            default: return BAD_VALUE;
        }
    }

    public int sorted(int rank) {
        if (rank < 0) {
            return BAD_VALUE;
        }
        int place = book.offcuts.placeByArea(rank);
        return place < 0 ? NONE : book.offcuts.number.at(place);
    }

    public int room(int room, int what) {
        if (!book.rooms.has(room)) {
            return UNKNOWN;
        }
        if (what < 0 || what > 8) {
            return BAD_VALUE;
        }
        boolean covered = book.rooms.isCovered(room);
        switch (what) {
            case 0: return book.rooms.rectangles.at(room);
            case 1: return book.rooms.area(room);
            case 2: return book.rooms.side.at(room);
            case 3: return covered ? 1 : 0;
            default: return covered ? covering(room, what) : NONE;
        }
    }

    private int covering(int room, int what) {
        switch (what) {
            case 4: return book.rooms.roll.at(room);
            case 5: return book.rooms.way.at(room);
            case 6: return book.rooms.strips(room);
            case 7: return book.rooms.seams(room);
            default: return book.rooms.price.at(room);
        }
    }

    public int strip(int room, int rank, int what) {
        if (!book.rooms.has(room)) {
            return UNKNOWN;
        }
        if (rank < 0 || what < 0 || what > 2) {
            return BAD_VALUE;
        }
        if (rank >= book.rooms.strips(room)) {
            return NONE;
        }
        switch (what) {
            case 0: return book.rooms.stripWidth(room, rank);
            case 1: return book.rooms.stripLength(room, rank);
            default: return book.rooms.source(room, rank);
        }
    }

    public int count(int what) {
        switch (what) {
            case 0: return book.rolls.came;
            case 1: return book.rooms.came;
            case 2: return book.rooms.covered();
            case 3: return book.offcuts.kept;
            case 4: return book.offcuts.came;
            case 5: return book.rolls.waste.sum();
            case 6: return book.rolls.laid.sum();
            case 7: return book.rooms.coveredArea();
            case 8: return book.coins;
            case 9: return history.length;
            case 10: return text.length;
            default: return setting(what - 11);
        }
    }

    private int setting(int which) {
        return which < 0 || which >= SETTINGS ? BAD_VALUE : book.settings.at(which);
    }

    public double wasted(int roll) {
        int area = book.rolls.has(roll) ? book.rolls.firstArea.at(roll) : 0;
        if (area <= 0) {
            return -1.0;
        }
        return (double) book.rolls.waste.at(roll) / area;
    }

    // ---- what would be

    public int ifCovered(int room, int roll, int way, int what) {
        if (!book.rooms.has(room) || !book.rolls.has(roll)) {
            return UNKNOWN;
        }
        if (!isWay(way) || what < 0 || what > 5) {
            return BAD_VALUE;
        }
        trial.copyFrom(book);
        int price = trial.lay(room, roll, way);
        if (price < 0) {
            return price;
        }
        switch (what) {
            case 0: return price;
            case 1: return trial.rooms.strips(room);
            case 2: return trial.rooms.seams(room);
            case 3: return trial.rolls.waste.at(roll) - book.rolls.waste.at(roll);
            case 4: return book.rolls.left.at(roll) - trial.rolls.left.at(roll);
            default: return trial.rooms.stripsFromOffcuts(room);
        }
    }

    public int best(int room, int kind, int what) {
        if (!book.rooms.has(room)) {
            return UNKNOWN;
        }
        if (!isKind(kind) || what < 0 || what > 3) {
            return BAD_VALUE;
        }
        choose(book, room, kind);
        if (!choice.isMade) {
            return NONE;
        }
        switch (what) {
            case 0: return choice.roll;
            case 1: return choice.way;
            case 2: return choice.waste;
            default: return choice.price;
        }
    }

    public int suits(int offcut) {
        int place = book.offcuts.placeOf(offcut);
        if (place < 0) {
            return UNKNOWN;
        }
        int rooms = book.rooms.came;
        for (int room = 0; room < rooms; room++) {
            if (book.sufficesFor(place, room)) {
                return room;
            }
        }
        return NONE;
    }

    public int coverAll(int kind, int what) {
        if (!isKind(kind) || what < 0 || what > 1) {
            return BAD_VALUE;
        }
        plan.copyFrom(book);
        int rooms = plan.rooms.came;
        int covered = 0;
        int waste = 0;
        for (int room = 0; room < rooms; room++) {
            choose(plan, room, kind);
            if (choice.isMade) {
                plan.lay(room, choice.roll, choice.way);
                covered++;
                waste += choice.waste;
            }
        }
        return what == 0 ? covered : waste;
    }

    private void choose(Book from, int room, int kind) {
        choice.isMade = false;
        int rolls = from.rolls.came;
        for (int roll = 0; roll < rolls; roll++) {
            if (from.rolls.kind.at(roll) != kind) {
                continue;
            }
            for (int way = 0; way <= 1; way++) {
                trial.copyFrom(from);
                int price = trial.lay(room, roll, way);
                if (price >= 0) {
                    int waste = trial.rolls.waste.at(roll) - from.rolls.waste.at(roll);
                    choice.offer(roll, way, waste, price);
                }
            }
        }
    }

    private static boolean isKind(int kind) {
        return kind >= 0 && kind <= 9;
    }

    private static boolean isWay(int way) {
        return way == 0 || way == 1;
    }

    /**
     * Numbers by their places. The machine must never throw here: a place
     * outside the row reads as 0, and nothing is put there.
     */
    private static final class Row {
        private final int[] cells;

        Row(int size) {
            cells = new int[size < 0 ? 0 : size];
        }

        int at(int place) {
            return place >= 0 && place < cells.length ? cells[place] : 0;
        }

        void put(int place, int value) {
            if (place >= 0 && place < cells.length) {
                cells[place] = value;
            }
        }

        void add(int place, int value) {
            if (place >= 0 && place < cells.length) {
                cells[place] += value;
            }
        }

        void removeAt(int place) {
            for (int i = place < 0 ? 0 : place; i < cells.length - 1; i++) {
                cells[i] = cells[i + 1];
            }
        }

        int sum() {
            int sum = 0;
            for (int i = 0; i < cells.length; i++) {
                sum += cells[i];
            }
            return sum;
        }

        void copyFrom(Row other) {
            System.arraycopy(other.cells, 0, cells, 0, Math.min(other.cells.length, cells.length));
        }
    }

    private static final class Rolls {
        int came;
        final Row kind = new Row(MOST_ROLLS);
        final Row width = new Row(MOST_ROLLS);
        final Row left = new Row(MOST_ROLLS);
        final Row price = new Row(MOST_ROLLS);
        final Row firstArea = new Row(MOST_ROLLS);
        final Row laid = new Row(MOST_ROLLS);
        final Row waste = new Row(MOST_ROLLS);
        final Row sold = new Row(MOST_ROLLS);

        boolean has(int roll) {
            return roll >= 0 && roll < came;
        }

        int append(int kindOf, int wide, int length, int coins) {
            int roll = came;
            kind.put(roll, kindOf);
            width.put(roll, wide);
            left.put(roll, length);
            price.put(roll, coins);
            firstArea.put(roll, wide * length);
            came++;
            return roll;
        }

        void copyFrom(Rolls other) {
            came = other.came;
            kind.copyFrom(other.kind);
            width.copyFrom(other.width);
            left.copyFrom(other.left);
            price.copyFrom(other.price);
            firstArea.copyFrom(other.firstArea);
            laid.copyFrom(other.laid);
            waste.copyFrom(other.waste);
            sold.copyFrom(other.sold);
        }
    }

    /** The offcuts that are kept, side by side in the order of their numbers. */
    private static final class Offcuts {
        int kept;
        int came;
        final Row number = new Row(MOST_KEPT);
        final Row roll = new Row(MOST_KEPT);
        final Row width = new Row(MOST_KEPT);
        final Row length = new Row(MOST_KEPT);

        boolean append(int ofRoll, int wide, int along) {
            if (kept >= MOST_KEPT || came >= MOST_OFFCUTS) {
                return false;
            }
            number.put(kept, came);
            roll.put(kept, ofRoll);
            width.put(kept, wide);
            length.put(kept, along);
            kept++;
            came++;
            return true;
        }

        void removeAt(int place) {
            if (place < 0 || place >= kept) {
                return;
            }
            number.removeAt(place);
            roll.removeAt(place);
            width.removeAt(place);
            length.removeAt(place);
            kept--;
        }

        int placeOf(int wanted) {
            for (int place = 0; place < kept; place++) {
                if (number.at(place) == wanted) {
                    return place;
                }
            }
            return NONE;
        }

        int area(int place) {
            return width.at(place) * length.at(place);
        }

        int keptOf(int ofRoll) {
            int found = 0;
            for (int place = 0; place < kept; place++) {
                if (roll.at(place) == ofRoll) {
                    found++;
                }
            }
            return found;
        }

        int areaOf(int ofRoll) {
            int sum = 0;
            for (int place = 0; place < kept; place++) {
                if (roll.at(place) == ofRoll) {
                    sum += area(place);
                }
            }
            return sum;
        }

        boolean isSmall(int place, int ofRoll, int limit) {
            return roll.at(place) == ofRoll && area(place) < limit;
        }

        int smallOnes(int ofRoll, int limit) {
            int found = 0;
            for (int place = 0; place < kept; place++) {
                if (isSmall(place, ofRoll, limit)) {
                    found++;
                }
            }
            return found;
        }

        boolean holds(int place, int wide, int along) {
            return width.at(place) >= wide && length.at(place) >= along;
        }

        /** Of the same area the first place wins, for it has the lowest number. */
        int placeFor(int ofRoll, int wide, int along) {
            int chosen = NONE;
            for (int place = 0; place < kept; place++) {
                if (roll.at(place) == ofRoll && holds(place, wide, along)
                        && (chosen < 0 || area(place) < area(chosen))) {
                    chosen = place;
                }
            }
            return chosen;
        }

        int placeByArea(int rank) {
            for (int place = 0; place < kept; place++) {
                if (rankOf(place) == rank) {
                    return place;
                }
            }
            return NONE;
        }

        private int rankOf(int place) {
            int own = area(place);
            int ahead = 0;
            for (int other = 0; other < kept; other++) {
                int area = area(other);
                if (area < own || area == own && other < place) {
                    ahead++;
                }
            }
            return ahead;
        }

        void copyFrom(Offcuts other) {
            kept = other.kept;
            came = other.came;
            number.copyFrom(other.number);
            roll.copyFrom(other.roll);
            width.copyFrom(other.width);
            length.copyFrom(other.length);
        }
    }

    /**
     * Rooms and their coverings. The sides of a strip follow from the room, the
     * way and the width of the roll, so that only its source is kept for it.
     */
    private static final class Rooms {
        int came;
        final Row rectangles = new Row(MOST_ROOMS);
        final Row westEast = new Row(MOST_ROOMS * MOST_RECTANGLES);
        final Row southNorth = new Row(MOST_ROOMS * MOST_RECTANGLES);
        final Row side = new Row(MOST_ROOMS);
        final Row roll = new Row(MOST_ROOMS);
        final Row rollWidth = new Row(MOST_ROOMS);
        final Row way = new Row(MOST_ROOMS);
        final Row price = new Row(MOST_ROOMS);
        final Row sources = new Row(MOST_ROOMS * MOST_STRIPS);

        boolean has(int room) {
            return room >= 0 && room < came;
        }

        boolean isCovered(int room) {
            return rollWidth.at(room) > 0;
        }

        /** Begins the next room, which counts only when it is finished. */
        void begin() {
            rectangles.put(came, 0);
            rollWidth.put(came, 0);
        }

        void addRectangle(int fromWest, int fromSouth) {
            int place = cell(came, rectangles.at(came));
            westEast.put(place, fromWest);
            southNorth.put(place, fromSouth);
            rectangles.add(came, 1);
        }

        void finish(int sideOfLight) {
            side.put(came, sideOfLight);
            came++;
        }

        void appendAll(Rooms others) {
            int coming = others.came;
            for (int room = 0; room < coming; room++) {
                begin();
                int rectanglesComing = others.rectangles.at(room);
                for (int i = 0; i < rectanglesComing; i++) {
                    int place = others.cell(room, i);
                    addRectangle(others.westEast.at(place), others.southNorth.at(place));
                }
                finish(others.side.at(room));
            }
        }

        int cell(int room, int rectangle) {
            return room * MOST_RECTANGLES + rectangle;
        }

        int area(int room) {
            int sum = 0;
            int parts = rectangles.at(room);
            for (int i = 0; i < parts; i++) {
                int place = cell(room, i);
                sum += westEast.at(place) * southNorth.at(place);
            }
            return sum;
        }

        int covered() {
            int found = 0;
            for (int room = 0; room < came; room++) {
                if (isCovered(room)) {
                    found++;
                }
            }
            return found;
        }

        int coveredArea() {
            int sum = 0;
            for (int room = 0; room < came; room++) {
                if (isCovered(room)) {
                    sum += area(room);
                }
            }
            return sum;
        }

        boolean isAcross(int room, int oneWay) {
            boolean lightAlongWayZero = side.at(room) == 0 || side.at(room) == 2;
            return lightAlongWayZero ? oneWay == 1 : oneWay == 0;
        }

        int rectangleWidth(int room, int rectangle, int oneWay) {
            Row row = oneWay == 0 ? westEast : southNorth;
            return row.at(cell(room, rectangle));
        }

        int rectangleLength(int room, int rectangle, int oneWay) {
            Row row = oneWay == 0 ? southNorth : westEast;
            return row.at(cell(room, rectangle));
        }

        void putCovering(int room, int ofRoll, int wide, int oneWay) {
            roll.put(room, ofRoll);
            rollWidth.put(room, wide);
            way.put(room, oneWay);
        }

        void putBare(int room) {
            rollWidth.put(room, 0);
        }

        void putSource(int room, int rank, int offcut) {
            sources.put(room * MOST_STRIPS + rank, offcut);
        }

        int source(int room, int rank) {
            return sources.at(room * MOST_STRIPS + rank);
        }

        private int stripsIn(int room, int rectangle) {
            int wide = rollWidth.at(room);
            if (wide <= 0) {
                return 0;
            }
            return (rectangleWidth(room, rectangle, way.at(room)) + wide - 1) / wide;
        }

        int strips(int room) {
            int sum = 0;
            int parts = rectangles.at(room);
            for (int i = 0; i < parts; i++) {
                sum += stripsIn(room, i);
            }
            return sum;
        }

        int seams(int room) {
            int sum = 0;
            int parts = rectangles.at(room);
            for (int i = 0; i < parts; i++) {
                sum += (stripsIn(room, i) - 1) * rectangleLength(room, i, way.at(room));
            }
            return sum;
        }

        int stripWidth(int room, int rank) {
            int ahead = rank;
            int parts = rectangles.at(room);
            for (int i = 0; i < parts; i++) {
                int strips = stripsIn(room, i);
                if (ahead < strips) {
                    int wide = rollWidth.at(room);
                    return Math.min(wide, rectangleWidth(room, i, way.at(room)) - ahead * wide);
                }
                ahead -= strips;
            }
            return 0;
        }

        int stripLength(int room, int rank) {
            int ahead = rank;
            int parts = rectangles.at(room);
            for (int i = 0; i < parts; i++) {
                int strips = stripsIn(room, i);
                if (ahead < strips) {
                    return rectangleLength(room, i, way.at(room));
                }
                ahead -= strips;
            }
            return 0;
        }

        int stripsFromOffcuts(int room) {
            int strips = strips(room);
            int found = 0;
            for (int rank = 0; rank < strips; rank++) {
                if (source(room, rank) >= 0) {
                    found++;
                }
            }
            return found;
        }

        void copyFrom(Rooms other) {
            came = other.came;
            rectangles.copyFrom(other.rectangles);
            westEast.copyFrom(other.westEast);
            southNorth.copyFrom(other.southNorth);
            side.copyFrom(other.side);
            roll.copyFrom(other.roll);
            rollWidth.copyFrom(other.rollWidth);
            way.copyFrom(other.way);
            price.copyFrom(other.price);
            sources.copyFrom(other.sources);
        }
    }

    /** A state: everything but the text, the history and the snapshot. */
    private static final class Book {
        final Row settings = new Row(SETTINGS);
        final Rolls rolls = new Rolls();
        final Offcuts offcuts = new Offcuts();
        final Rooms rooms = new Rooms();
        int coins;
        private int pieceWidth;
        private int pieceLength;

        Book() {
            settings.put(LEAST_SIDE, 3);
            settings.put(SEAM_PRICE, 2);
            settings.put(ACROSS_TIMES, 3);
        }

        void copyFrom(Book other) {
            settings.copyFrom(other.settings);
            rolls.copyFrom(other.rolls);
            offcuts.copyFrom(other.offcuts);
            rooms.copyFrom(other.rooms);
            coins = other.coins;
        }

        /**
         * Covers a room and answers the price, or -10 minus the reason why not:
         * then the book is spoilt, so that the caller lays in a copy.
         */
        int lay(int room, int roll, int way) {
            if (rooms.isCovered(room)) {
                return IS_COVERED;
            }
            if (settings.at(WITH_LIGHT) == 1 && rooms.isAcross(room, way)) {
                return IS_ACROSS;
            }
            rooms.putCovering(room, roll, rolls.width.at(roll), way);
            int strips = rooms.strips(room);
            for (int rank = 0; rank < strips; rank++) {
                int width = rooms.stripWidth(room, rank);
                int length = rooms.stripLength(room, rank);
                if (!takePiece(roll, width, length, room, rank)) {
                    return IS_TOO_SHORT;
                }
                rolls.laid.add(roll, width * length);
                if (!leaveRests(roll, width, length)) {
                    return IS_CROWDED;
                }
            }
            int price = rooms.area(room) * rolls.price.at(roll)
                    + rooms.seams(room) * seamPrice(room, way);
            rooms.price.put(room, price);
            coins += price;
            return price;
        }

        private int seamPrice(int room, int way) {
            int times = rooms.isAcross(room, way) ? settings.at(ACROSS_TIMES) : 1;
            return settings.at(SEAM_PRICE) * times;
        }

        private boolean takePiece(int roll, int width, int length, int room, int rank) {
            int place = offcuts.placeFor(roll, width, length);
            if (place >= 0) {
                pieceWidth = offcuts.width.at(place);
                pieceLength = offcuts.length.at(place);
                rooms.putSource(room, rank, offcuts.number.at(place));
                offcuts.removeAt(place);
                return true;
            }
            if (rolls.left.at(roll) < length) {
                return false;
            }
            rolls.left.add(roll, -length);
            pieceWidth = rolls.width.at(roll);
            pieceLength = length;
            rooms.putSource(room, rank, NONE);
            return true;
        }

        private boolean leaveRests(int roll, int width, int length) {
            boolean longBeside = isLongBeside(width, length);
            int besideLength = longBeside ? pieceLength : length;
            int behindWidth = longBeside ? width : pieceWidth;
            return leaveRest(roll, pieceWidth - width, besideLength)
                    && leaveRest(roll, behindWidth, pieceLength - length);
        }

        /** Whether the rest beside a strip runs along the whole piece: the rule 0. */
        private boolean isLongBeside(int width, int length) {
            int rule = settings.at(RULE);
            if (rule != 2) {
                return rule == 0;
            }
            int beside = pieceWidth - width;
            int behind = pieceLength - length;
            int greatestByZero = Math.max(beside * pieceLength, width * behind);
            int greatestByOne = Math.max(beside * length, pieceWidth * behind);
            return greatestByZero >= greatestByOne;
        }

        private boolean leaveRest(int roll, int width, int length) {
            int least = settings.at(LEAST_SIDE);
            if (width < least || length < least) {
                rolls.waste.add(roll, width * length);
                return true;
            }
            return offcuts.append(roll, width, length);
        }

        int lift(int room) {
            int roll = rooms.roll.at(room);
            int strips = rooms.strips(room);
            int coming = 0;
            for (int rank = 0; rank < strips; rank++) {
                int width = rooms.stripWidth(room, rank);
                int length = rooms.stripLength(room, rank);
                rolls.laid.add(roll, -(width * length));
                if (offcuts.append(roll, width, length)) {
                    coming++;
                } else {
                    rolls.waste.add(roll, width * length);
                }
            }
            rooms.putBare(room);
            return coming;
        }

        int sellAt(int place) {
            int roll = offcuts.roll.at(place);
            int area = offcuts.area(place);
            int price = area * rolls.price.at(roll) / 2;
            rolls.sold.add(roll, area);
            coins += price;
            offcuts.removeAt(place);
            return price;
        }

        int throwSmallOnes(int roll, int limit) {
            int thrown = 0;
            for (int place = offcuts.kept - 1; place >= 0; place--) {
                if (offcuts.isSmall(place, roll, limit)) {
                    rolls.waste.add(roll, offcuts.area(place));
                    offcuts.removeAt(place);
                    thrown++;
                }
            }
            return thrown;
        }

        boolean sufficesFor(int place, int room) {
            if (rooms.isCovered(room) || rooms.rectangles.at(room) != 1) {
                return false;
            }
            return sufficesByWay(place, room, 0) || sufficesByWay(place, room, 1);
        }

        private boolean sufficesByWay(int place, int room, int way) {
            if (settings.at(WITH_LIGHT) == 1 && rooms.isAcross(room, way)) {
                return false;
            }
            return offcuts.holds(place, rooms.rectangleWidth(room, 0, way),
                    rooms.rectangleLength(room, 0, way));
        }
    }

    /** The latest states, in a ring, so that none is made or moved by a call. */
    private static final class History {
        private final Book[] states = new Book[MOST_STATES];
        private int oldest;
        int length;

        History() {
            for (int i = 0; i < states.length; i++) {
                states[i] = new Book();
            }
        }

        void record(Book book) {
            Book slot = slotAt(oldest + length);
            if (slot == null) {
                return;
            }
            slot.copyFrom(book);
            if (length < MOST_STATES) {
                length++;
            } else {
                oldest = (oldest + 1) % MOST_STATES;
            }
        }

        void moveLatestTo(Book book) {
            Book slot = slotAt(oldest + length - 1);
            if (slot == null || length <= 0) {
                return;
            }
            book.copyFrom(slot);
            length--;
        }

        private Book slotAt(int turn) {
            int place = Math.floorMod(turn, MOST_STATES);
            return place >= 0 && place < states.length ? states[place] : null;
        }
    }

    /** The best covering that was offered so far. */
    private static final class Choice {
        boolean isMade;
        int roll;
        int way;
        int waste;
        int price;

        /** A later offer wins only if it is better: lower rolls and ways come first. */
        void offer(int ofRoll, int oneWay, int wasting, int coins) {
            if (isMade && (wasting > waste || wasting == waste && coins >= price)) {
                return;
            }
            isMade = true;
            roll = ofRoll;
            way = oneWay;
            waste = wasting;
            price = coins;
        }
    }

    /** The text, and the rooms that were found when it was read. */
    private static final class RoomText {
        private static final int FROM_WEST = 0;
        private static final int FROM_SOUTH = 1;
        private static final int LIGHT = 2;
        private static final int ROOM_END = 3;

        final Row characters = new Row(MOST_CHARACTERS);
        int length;
        final Rooms found = new Rooms();
        private int stage;
        private int number;
        private int fromWest;

        boolean append(char character) {
            if (length >= MOST_CHARACTERS) {
                return false;
            }
            characters.put(length, character);
            length++;
            return true;
        }

        /** Answers the fault, or NONE; the rooms found are of use only without one. */
        int read() {
            found.came = 0;
            beginRoom();
            for (int i = 0; i < length; i++) {
                if (!takes(characters.at(i))) {
                    return i;
                }
            }
            return stage == ROOM_END ? NONE : length;
        }

        private void beginRoom() {
            found.begin();
            stage = FROM_WEST;
            number = 0;
        }

        private boolean takes(int sign) {
            switch (stage) {
                case FROM_WEST: return takesDigit(sign) || takesBetweenSizes(sign);
                case FROM_SOUTH: return takesDigit(sign) || takesBehindSizes(sign);
                case LIGHT: return takesLight(sign);
                default: return takesBetweenRooms(sign);
            }
        }

        /** A zero in front is refused too, for no size is 0. */
        private boolean takesDigit(int sign) {
            if (sign < '0' || sign > '9') {
                return false;
            }
            int longer = number * 10 + sign - '0';
            if (longer < 1 || longer > LONGEST_SIDE) {
                return false;
            }
            number = longer;
            return true;
        }

        private boolean takesBetweenSizes(int sign) {
            if (sign != 'x' || number == 0) {
                return false;
            }
            fromWest = number;
            number = 0;
            stage = FROM_SOUTH;
            return true;
        }

        private boolean takesBehindSizes(int sign) {
            if (number == 0 || sign != '+' && sign != '@') {
                return false;
            }
            if (sign == '+' && found.rectangles.at(found.came) >= MOST_RECTANGLES - 1) {
                return false;
            }
            found.addRectangle(fromWest, number);
            number = 0;
            stage = sign == '+' ? FROM_WEST : LIGHT;
            return true;
        }

        private boolean takesLight(int sign) {
            if (sign < '0' || sign > '3') {
                return false;
            }
            found.finish(sign - '0');
            stage = ROOM_END;
            return true;
        }

        private boolean takesBetweenRooms(int sign) {
            if (sign != ';') {
                return false;
            }
            beginRoom();
            return true;
        }
    }
}
