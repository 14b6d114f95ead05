/** The sentences of the Terms on sights and raids. */
final class TermsOfSights {
    private TermsOfSights() {
    }

    static void play() {
        sights();
        refusedByAgeAndGate();
        refusedByTowersAndEntries();
        wins();
    }

    private static void sights() {
        Edge.of("Sights. A scout of a lord sees a castle if the towers that are near are a quorum: how many entries count, and"
            + " gold less held gold.", () -> {
                Castlequorum game = Scene.ofTowers(4, 9999);
                game.lease(0, 0, 0, 20);
                Check.due("a scout of an empty row", game.scout(0, 0), 0);
                Check.due("none counts", game.read(0, true), 0);
                Check.due("all gold", game.read(0, false), 9999);
                game.truce(0, 999);
                game.prepare(0, 0, 0);
                game.order(0, 0, 0, false, 500);
                Scene.orderTo(game, 0, 0b0011);
                Check.refused("2 of 4 near", game, Edge.CANNOT, () -> game.scout(0, 0));
                Scene.nearOnly(game, 0, 0, 0b1011);
                Check.due("3 of 4 near", game.scout(0, 0), 1);
                Check.due("those that count", game.read(1, true), 2);
                Check.due("gold less held gold", game.read(1, false), 8500);
                game.fall(0, 3);
                Check.refused("2 of 4 near, one fallen", game, Edge.CANNOT, () -> game.scout(0, 0));
            });
        Edge.of("At most 20 sights are numbered from 0; one is too old 10 ticks later.", () -> {
            Castlequorum game = new Castlequorum();
            game.wait(7);
            for (int sight = 0; sight < 20; sight++) {
                Check.due("the number of a sight", game.scout(sight % 4, sight / 10), sight);
            }
            Check.refused("a 21st", game, Edge.FULL, () -> game.scout(0, 0));
            Check.refused("sight 20", game, Edge.INDEX, () -> game.read(20, true));
            game.wait(9);
            Check.due("the first, 9 ticks later", game.read(0, false), 100);
            Check.due("the last, 9 ticks later", game.read(19, false), 100);
            game.wait(1);
            Check.refused("the first, 10 ticks later", game, Edge.CANNOT, () -> game.read(0, false));
            Check.refused("the last, 10 ticks later", game, Edge.CANNOT, () -> game.read(19, true));
            Check.refused("a 21st when all are too old", game, Edge.FULL, () -> game.scout(0, 0));
        });
    }

    private static void refusedByAgeAndGate() {
        Edge.of("A raid goes by a sight, for its lord, to a gate of its castle; what comes of it is the first of these: 'o' the"
            + " sight is too old;", () -> {
                Castlequorum game = Scene.leased();
                game.lease(1, 1, 0, 20);
                game.scout(1, 1);
                game.scout(0, 0);
                game.scout(0, 0);
                game.wait(9);
                Check.due("9 ticks later", game.raid(1, 0), 'w');
                Check.due("it is for the lord and at the castle of the sight", game.purse(0, 0), 50);
                Check.due("at no other", game.entries(1), 0);
                Check.due("by the sight of the other one", game.raid(0, 0), 'w');
                Check.due("the purse there", game.purse(1, 1), 50);
                game.wait(1);
                Check.due("10 ticks later, where another has raided", game.raid(2, 0), 'o');
                game.fall(0, 0);
                game.fall(0, 1);
                Check.due("'o' ahead of 'q'", game.raid(2, 0), 'o');
                Check.due("'o' ahead of 'g'", game.raid(2, 2), 'o');
                game.build(1, 3, 100);
                Check.due("a castle built anew", game.raid(0, 0), 'o');
            });
        Edge.of("'g' the gate is not open for this lord;", () -> {
            Castlequorum game = new Castlequorum();
            game.lease(0, 0, 0, 9);
            game.lease(1, 0, 1, 20);
            game.lease(0, 1, 2, 20);
            game.scout(0, 0);
            game.scout(0, 0);
            Check.due("open for another", game.raid(0, 1), 'g');
            Check.due("open at the other castle", game.raid(0, 2), 'g');
            game.wait(8);
            Check.due("the last tick of the lease", game.raid(0, 0), 'w');
            game.wait(1);
            Check.due("the tick of the lease: 'g' ahead of 's'", game.raid(1, 0), 'g');
            game.fall(0, 0);
            game.fall(0, 1);
            Check.due("'g' ahead of 'q'", game.raid(1, 0), 'g');
            Check.due("no entry comes of it", game.entries(0), 1);
        });
    }

    private static void refusedByTowersAndEntries() {
        Edge.of("'q' the towers near this lord are no quorum;", () -> {
            Castlequorum game = Scene.ofTowers(4);
            game.lease(0, 0, 0, 20);
            game.scout(0, 0);
            Scene.nearOnly(game, 0, 0, 0b0101);
            Check.due("2 of 4 near", game.raid(0, 0), 'q');
            game.order(0, 0, 0, false, 1);
            Check.due("'q' ahead of 's'", game.raid(0, 0), 'q');
            Scene.nearOnly(game, 0, 0, 0b1111);
            game.fall(0, 1);
            Check.due("3 of 4 near", game.raid(0, 0), 's');
            game.spread(0);
            game.scout(0, 0);
            Check.due("3 of 4 near, by a new sight", game.raid(1, 0), 'w');
        });
        Edge.of("'s' more or fewer entries count than were seen, or some hang;", () -> {
            Castlequorum game = Scene.leased();
            game.lease(1, 0, 1, 20);
            game.order(0, 0, 0, false, 10);
            game.scout(0, 0);
            Scene.nearOnly(game, 0, 1, 1);
            game.order(1, 0, 1, false, 10);
            Check.due("as many count, one hangs", game.raid(0, 0), 's');
            game.scout(0, 0);
            Check.due("one hangs as it did", game.raid(1, 0), 's');
            game.spread(0);
            Check.due("one more counts, none hangs", game.raid(0, 0), 's');
            Check.due("it was seen to hang, and counts", game.raid(1, 0), 's');
            game.scout(0, 0);
            Check.due("as many count, none hangs", game.raid(2, 0), 'w');
            Check.due("the raid itself counts", game.raid(2, 0), 's');
            Castlequorum other = Scene.oneNear();
            other.order(0, 0, 0, false, 1);
            other.burn(0, 0);
            Scene.nearOnly(other, 0, 0, 0b110);
            other.scout(0, 0);
            Check.due("what hangs, though no tower has it", other.raid(0, 0), 's');
            other.strike(0);
            Check.due("one more counts, that was struck", other.raid(0, 0), 's');
        });
    }

    private static void wins() {
        Edge.of("'w' it wins: an entry 'r' of half of the gold seen, cut, perhaps of 0, is written to the towers that are near."
            + " Truces.", () -> {
                int[] golds = {0, 1, 2, 3, 99, 9998, 9999};
                for (int gold : golds) {
                    Castlequorum game = Scene.ofTowers(5, gold);
                    game.lease(3, 0, 2, 20);
                    game.scout(3, 0);
                    Scene.nearOnly(game, 0, 3, 0b11110);
                    game.fall(0, 2);
                    Check.due("a raid", game.raid(0, 2), 'w');
                    Check.due("its letter", game.entryOf(0, 0), 'r');
                    Check.due("half of " + gold, game.amountOf(0, 0), gold / 2);
                    Check.due("gold", game.gold(0, false), gold - gold / 2);
                    Check.due("the purse", game.purse(3, 0), gold / 2);
                    for (int tower = 0; tower < 5; tower++) {
                        Check.due("tower " + tower, game.has(0, tower, 0), tower != 0 && tower != 2);
                    }
                    Check.due("entries", game.entries(0), 1);
                }
            });
    }
}
