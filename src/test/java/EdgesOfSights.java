/** The sentences of promises 27 to 30: scout, read, raid, won. */
final class EdgesOfSights {
    private EdgesOfSights() {
    }

    static void play() {
        scoutNumbers();
        scoutRefusals();
        reading();
        raidNumbers();
        raidAnswers();
        won();
    }

    /** So many sights of castle 0, of lord 0. */
    private static Castlequorum scouted(int sights) {
        Castlequorum game = Scene.leased();
        for (int sight = 0; sight < sights; sight++) {
            game.scout(0, 0);
        }
        return game;
    }

    private static void scoutNumbers() {
        Edge.in("Promise 27");
        Edge.of("Sends a scout.", () -> {
            Castlequorum game = new Castlequorum();
            game.scout(2, 1);
            Check.due("the count seen", game.read(0, true), 0);
            Check.due("the gold seen", game.read(0, false), 100);
            game.lease(2, 1, 0, 5);
            Check.due("it is a sight of that lord and castle", game.raid(0, 0), 'w');
            Check.due("the purse", game.purse(2, 1), 50);
        });
        Edge.of("`lord`: the lord, 0 to 3", () -> Edge.lords(() -> {
            Castlequorum game = new Castlequorum();
            game.lease(0, 0, 0, 5);
            game.lease(3, 0, 1, 5);
            return game;
        }, (game, lord) -> {
            game.scout(lord, 0);
            game.raid(0, lord == 0 ? 0 : 1);
            return game.purse(lord, 0);
        }, 50, 50));
        Edge.of("`castle`: the castle, 0 or 1", () -> Edge.castles(Scene::unlike, (game, castle) -> {
            int sight = game.scout(0, castle);
            return game.read(sight, false);
        }, 70, 4060));
        Edge.of("Returns the number of the sight.", () -> {
            Castlequorum game = new Castlequorum();
            for (int sight = 0; sight < 20; sight++) {
                Check.due("the number", game.scout(sight % 3, sight % 2), sight);
                game.wait(5);
            }
        });
        Edge.of("Throws `IndexOutOfBoundsException` if there is no such castle or lord", () -> {
            for (int sights : new int[] {0, 20}) {
                Castlequorum game = scouted(sights);
                Check.refused("lord 4", game, Edge.INDEX, () -> game.scout(4, 0));
                Check.refused("lord -1", game, Edge.INDEX, () -> game.scout(-1, 0));
                Check.refused("castle 2", game, Edge.INDEX, () -> game.scout(0, 2));
                Check.refused("castle -1", game, Edge.INDEX, () -> game.scout(0, -1));
            }
        });
    }

    private static void scoutRefusals() {
        Edge.of("Throws `UnsupportedOperationException` if the towers near this lord are no quorum", () -> {
            for (int towers = 1; towers <= 7; towers++) {
                Castlequorum game = Scene.ofTowers(towers);
                int half = (1 << towers / 2) - 1;
                Scene.nearOnly(game, 0, 1, half);
                Check.refused("half of " + towers + " not cut", game, Edge.CANNOT, () -> game.scout(1, 0));
                Check.due("another lord", game.scout(0, 0), 0);
                Scene.upOnly(game, 0, 2 * half + 1);
                Check.refused("half of " + towers + " not cut, one more up", game, Edge.CANNOT, () -> game.scout(1, 0));
                Check.due("one more near", game.scout(0, 0), 1);
                Scene.upOnly(game, 0, half);
                Check.refused("half of " + towers + " up", game, Edge.CANNOT, () -> game.scout(0, 0));
                Scene.upOnly(game, 0, -1);
                Check.due("all up, the others waiting", game.scout(0, 0), 2);
            }
        });
        Edge.of("Throws `IllegalStateException` if there are 20", () -> {
            Castlequorum game = scouted(19);
            Check.due("with 19", game.scout(0, 1), 19);
            Check.refused("with 20", game, Edge.FULL, () -> game.scout(0, 0));
            Check.refused("at the other castle", game, Edge.FULL, () -> game.scout(1, 1));
            game.wait(100);
            Check.refused("when all are too old", game, Edge.FULL, () -> game.scout(0, 0));
            game.build(0, 3, 100);
            game.build(1, 3, 100);
            Check.refused("when both castles are built anew", game, Edge.FULL, () -> game.scout(0, 0));
        });
    }

    private static void reading() {
        Edge.in("Promise 28");
        Edge.of("Reads a sight.", () -> {
            Castlequorum game = Scene.unlike();
            game.order(0, 0, 0, false, 70);
            Check.due("what was seen, not what is now", game.read(0, false), 70);
            Check.due("the count", game.read(0, true), 1);
            Check.due("the other sight", game.read(1, false), 4060);
            Check.due("its count", game.read(1, true), 3);
            game.fall(0, 0);
            game.fall(0, 1);
            Check.due("without a quorum", game.read(0, false), 70);
        });
        Edge.of("`sight`: the number of the sight", () -> {
            Edge.bounds(Scene::unlike, (game, sight) -> game.read(sight, false), 0, 70, 1, 4060, Edge.INDEX);
            Edge.bounds(() -> scouted(20), (game, sight) -> game.read(sight, false), 0, 100, 19, 100, Edge.INDEX);
        });
        Edge.of("`isCount`: whether how many entries counted is meant, otherwise the gold", () -> {
            Castlequorum game = Scene.filled(60);
            game.scout(0, 0);
            Check.due("the count of a full row", game.read(0, true), 60);
            Check.due("the gold", game.read(0, false), 100);
            Castlequorum other = Scene.oneNear();
            other.order(0, 0, 0, false, 1);
            other.scout(1, 0);
            Check.due("the count where all hang", other.read(0, true), 0);
            Castlequorum none = Scene.ofTowers(1, 0);
            none.scout(0, 0);
            Check.due("the gold where there is none", none.read(0, false), 0);
        });
        Edge.of("Returns the number seen.", () -> {
            Castlequorum game = Scene.ofTowers(1, 9999);
            game.truce(0, 999);
            game.scout(0, 0);
            game.prepare(0, 0, 0);
            game.scout(0, 0);
            game.decide(0, false);
            game.settle(0);
            game.scout(0, 0);
            Check.due("ahead of it", game.read(0, false), 9999);
            Check.due("gold less held gold", game.read(1, false), 9000);
            Check.due("when it is held no more", game.read(2, false), 9999);
            Check.due("the counts", "" + game.read(0, true) + game.read(1, true) + game.read(2, true), "012");
        });
        Edge.of("Throws `IndexOutOfBoundsException` if there is no such sight", () -> {
            Castlequorum game = new Castlequorum();
            Check.refused("sight 0 of none", game, Edge.INDEX, () -> game.read(0, true));
            game.scout(0, 0);
            for (int sight : new int[] {-1, 1, 19, 20, Integer.MIN_VALUE, Integer.MAX_VALUE}) {
                Check.refused("sight " + sight, game, Edge.INDEX, () -> game.read(sight, true));
                Check.refused("sight " + sight, game, Edge.INDEX, () -> game.read(sight, false));
            }
        });
        Edge.of("Throws `UnsupportedOperationException` if it is too old", () -> {
            Castlequorum game = new Castlequorum();
            Scene.wait(game, 33000);
            game.scout(0, 0);
            game.wait(1);
            game.scout(0, 1);
            for (int tick = 1; tick < 10; tick++) {
                Check.due("not yet", game.read(0, false), 100);
                if (tick < 9) {
                    game.wait(1);
                }
            }
            game.wait(1);
            Check.refused("10 ticks later", game, Edge.CANNOT, () -> game.read(0, false));
            Check.refused("10 ticks later, the count", game, Edge.CANNOT, () -> game.read(0, true));
            Check.due("9 ticks later", game.read(1, false), 100);
            game.build(0, 3, 100);
            Check.due("when the other castle is built anew", game.read(1, false), 100);
            game.build(1, 3, 100);
            Check.refused("when its castle is built anew", game, Edge.CANNOT, () -> game.read(1, false));
            game.wait(100);
            Check.refused("much later", game, Edge.CANNOT, () -> game.read(0, false));
        });
    }

    private static void raidNumbers() {
        Edge.in("Promise 29");
        Edge.of("Raids by a sight.", () -> {
            Castlequorum game = Scene.unlike();
            game.raid(1, 2);
            Check.due("the entry", game.entryOf(1, 3), 'r');
            Check.due("the amount", game.amountOf(1, 3), 2030);
            Check.due("the purse", game.purse(3, 1), 2930);
            Check.due("the other castle", game.entries(0), 1);
        });
        Edge.of("`sight`: the number of the sight", () -> {
            Edge.bounds(Scene::unlike, (game, sight) -> game.raid(sight, 0), 0, 'w', 1, 'g', Edge.INDEX);
            Edge.bounds(() -> scouted(20), (game, sight) -> game.raid(sight, 0), 0, 'w', 19, 'w', Edge.INDEX);
            Castlequorum game = new Castlequorum();
            Check.refused("sight 0 of none", game, Edge.INDEX, () -> game.raid(0, 0));
        });
        Edge.of("`gate`: the gate, 0 to 2", () -> {
            Edge.gates(Scene::unlike, (game, gate) -> game.raid(0, gate), 'w', 'g');
            Edge.gates(Scene::unlike, (game, gate) -> game.raid(1, gate), 'g', 'w');
        });
    }

    private static void raidAnswers() {
        Edge.of("Returns what comes of it.", () -> {
            Castlequorum game = Scene.ofTowers(1);
            game.scout(0, 0);
            Check.due("closed", game.raid(0, 0), 'g');
            game.lease(0, 0, 0, 20);
            Check.due("open", game.raid(0, 0), 'w');
            Check.due("again", game.raid(0, 0), 's');
            game.cut(0, 0, 0, true);
            Check.due("none is near", game.raid(0, 0), 'q');
            game.giveUp(0, 0, 0);
            Check.due("given up", game.raid(0, 0), 'g');
            game.wait(10);
            Check.due("too old", game.raid(0, 0), 'o');
            Check.due("won", game.won(0), 1);
            Check.due("entries", game.entries(0), 1);
        });
        Edge.of("Throws `IndexOutOfBoundsException` if there is no such sight or gate", () -> {
            for (int entries : new int[] {0, 60}) {
                Castlequorum game = Scene.filled(entries);
                game.scout(0, 0);
                for (int sight : new int[] {-1, 1, 20, Integer.MIN_VALUE, Integer.MAX_VALUE}) {
                    Check.refused("sight " + sight, game, Edge.INDEX, () -> game.raid(sight, 0));
                }
                for (int gate : new int[] {-1, 3, Integer.MIN_VALUE, Integer.MAX_VALUE}) {
                    Check.refused("gate " + gate, game, Edge.INDEX, () -> game.raid(0, gate));
                }
            }
        });
        Edge.of("Throws `IllegalStateException` if the castle has 60 entries, whatever would come of it", () -> {
            Castlequorum game = Scene.filled(59);
            game.scout(0, 0);
            game.scout(0, 1);
            Check.due("with 59", game.raid(0, 0), 'w');
            Check.refused("with 60: 's'", game, Edge.FULL, () -> game.raid(0, 0));
            game.scout(0, 0);
            Check.refused("with 60: 'w'", game, Edge.FULL, () -> game.raid(2, 0));
            Check.refused("with 60: 'g'", game, Edge.FULL, () -> game.raid(2, 1));
            game.fall(0, 0);
            game.fall(0, 1);
            Check.refused("with 60: 'q'", game, Edge.FULL, () -> game.raid(2, 0));
            Check.due("at the other castle", game.raid(1, 0), 'g');
            game.wait(10);
            Check.refused("with 60: 'o'", game, Edge.FULL, () -> game.raid(2, 0));
            game.build(0, 3, 100);
            Check.due("when it is built anew: 'o'", game.raid(2, 0), 'o');
            Check.due("won", game.won(0), 1);
        });
    }

    private static void won() {
        Edge.in("Promise 30");
        Edge.of("Returns how many raids of a lord have won.", () -> {
            Castlequorum game = new Castlequorum();
            for (int lord = 0; lord < 4; lord++) {
                for (int raid = 0; raid < lord; raid++) {
                    game.lease(lord, raid % 2, lord % 3, 20);
                    int sight = game.scout(lord, raid % 2);
                    Check.due("a raid", game.raid(sight, lord % 3), 'w');
                    Check.due("by the same sight", game.raid(sight, lord % 3), 's');
                }
                game.wait(20);
            }
            for (int lord = 0; lord < 4; lord++) {
                Check.due("won by lord " + lord, game.won(lord), lord);
            }
        });
        Edge.of("`lord`: the lord, 0 to 3", () -> Edge.lords(() -> {
            Castlequorum game = Scene.unlike();
            game.raid(1, 2);
            return game;
        }, Castlequorum::won, 0, 1));
        Edge.of("Returns their number.", () -> {
            Castlequorum game = Scene.ofTowers(1, 9999);
            game.lease(1, 0, 0, 20);
            for (int raid = 0; raid < 20; raid++) {
                Check.due("their number", game.won(1), raid);
                game.raid(game.scout(1, 0), 0);
            }
            Check.due("as many as there are sights", game.won(1), 20);
            Check.due("the last of them, of 0", game.amountOf(0, 19), 0);
            game.build(0, 3, 100);
            Check.due("when the castle is built anew", game.won(1), 20);
        });
        Edge.of("Throws `IndexOutOfBoundsException` if there is no such lord", () -> {
            Castlequorum game = Scene.unlike();
            for (int lord : new int[] {-1, 4, Integer.MIN_VALUE, Integer.MAX_VALUE}) {
                Check.refused("lord " + lord, game, Edge.INDEX, () -> game.won(lord));
            }
        });
    }
}
