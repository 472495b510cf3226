/** Objects with many offcuts, which are made in few calls. */
final class Crowd {
    private Crowd() {
    }

    /**
     * So many offcuts (2 to 60) are kept, each 5 x 5, of the roll 0, which is 5 wide;
     * the roll 1 is 60 wide and 20 long and has none. The rooms begin with the number 2;
     * the setting 1 is 1.
     */
    static CarpetCounter kept(int many, String rooms) {
        CarpetCounter x = Due.with(0, 5, 999, 1, "60x5+60x5+60x5@0;60x5+60x5@0");
        x.roll(1, 60, 20, 1);
        x.set(1, 1);
        x.cover(0, 0, 0);
        x.cover(1, 0, 0);
        x.takeUp(0);
        x.takeUp(1);
        for (int offcut = 59; offcut >= many; offcut--) {
            x.sell(offcut);
        }
        Due.rooms(x, rooms);
        return x;
    }

    /**
     * So many offcuts (288 to 300) came, none of which is kept; the roll 0 is 5 wide, the
     * roll 1 is 20 wide and 20 long. The rooms begin with the number 2; the setting 1 is 1.
     */
    static CarpetCounter came(int many, String rooms) {
        CarpetCounter x = Due.with(0, 5, 999, 1, "60x1+60x1+60x1@0;5x1@0");
        x.roll(1, 20, 20, 1);
        x.set(1, 1);
        for (int i = 0; i < 8; i++) {
            comeAndGo(x, 0);
        }
        for (int i = 288; i < many; i++) {
            comeAndGo(x, 1);
        }
        Due.rooms(x, rooms);
        return x;
    }

    private static void comeAndGo(CarpetCounter x, int room) {
        x.cover(room, 0, 0);
        x.takeUp(room);
        x.clear(0, 9999);
    }
}
