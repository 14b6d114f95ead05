/** Games that have come some way, for tests to begin with. Each call makes a new one. */
final class Scene {
    private Scene() {
    }

    /** Castles that answer each question otherwise: castle 0 of 3 towers, castle 1 of 7, at the tick 5. */
    static Castlequorum unlike() {
        Castlequorum game = new Castlequorum();
        game.wait(5);
        game.build(1, 7, 5000);
        game.lease(0, 0, 0, 10);
        game.order(0, 0, 0, false, 30);
        game.lease(3, 1, 2, 20);
        game.order(3, 1, 2, false, 999);
        game.order(3, 1, 2, true, 99);
        game.truce(1, 40);
        game.prepare(0, 1, 0);
        game.scout(0, 0);
        game.scout(3, 1);
        return game;
    }

    /** Castle 0 of so many towers and the gold 100. */
    static Castlequorum ofTowers(int towers) {
        return ofTowers(towers, 100);
    }

    static Castlequorum ofTowers(int towers, int gold) {
        Castlequorum game = new Castlequorum();
        game.build(0, towers, gold);
        return game;
    }

    /** Castle 0 is leased to lord 0 at gate 0 for 20 ticks. */
    static Castlequorum leased() {
        Castlequorum game = new Castlequorum();
        game.lease(0, 0, 0, 20);
        return game;
    }

    /** As leased, and castle 0 has so many entries, that take out 1 and put it in again. */
    static Castlequorum filled(int entries) {
        Castlequorum game = leased();
        for (int entry = 0; entry < entries; entry++) {
            game.order(0, 0, 0, entry % 2 == 1, 1);
        }
        return game;
    }

    /** As leased, and only tower 0 of three is near lord 0, so that what he tells hangs. */
    static Castlequorum oneNear() {
        Castlequorum game = leased();
        nearOnly(game, 0, 0, 1);
        return game;
    }

    /** Cuts the links of a lord to all towers but those of a mask. */
    static void nearOnly(Castlequorum game, int castle, int lord, int mask) {
        for (int tower = 0; tower < towers(game, castle); tower++) {
            game.cut(castle, tower, lord, (mask >> tower & 1) == 0);
        }
    }

    /** All towers of a mask are up, the others are down. */
    static void upOnly(Castlequorum game, int castle, int mask) {
        for (int tower = 0; tower < towers(game, castle); tower++) {
            if ((mask >> tower & 1) == 0) {
                game.fall(castle, tower);
            } else {
                game.rise(castle, tower);
            }
        }
    }

    static int towers(Castlequorum game, int castle) {
        int towers = 0;
        while (towers < 10 && !Picture.ask(game, "tower", castle, towers).equals("IndexOutOfBoundsException")) {
            towers++;
        }
        return towers;
    }

    /** An order 'o' of 1 of lord 0 at gate 0, that is written to the towers of a mask alone. */
    static int orderTo(Castlequorum game, int castle, int mask) {
        nearOnly(game, castle, 0, mask);
        return game.order(0, castle, 0, false, 1);
    }

    /** Lets so many ticks go by, which may be more than one call lets. */
    static void wait(Castlequorum game, int ticks) {
        for (int left = ticks; left > 0; left -= 100) {
            game.wait(Math.min(left, 100));
        }
    }
}
