/** The sentences of the Terms on entries and orders. */
final class TermsOfEntries {
    private TermsOfEntries() {
    }

    static void play() {
        rows();
        counting();
        amounts();
        truceEntries();
        orders();
        spreadAndStrike();
    }

    private static void rows() {
        Edge.of("Entries. Each castle has a row of at most 60 entries, numbered from 0.", () -> {
            Castlequorum game = new Castlequorum();
            game.lease(1, 1, 1, 20);
            for (int entry = 0; entry < 60; entry++) {
                Check.due("the number of an entry", game.order(1, 1, 1, entry % 2 == 1, 1), entry);
                Check.due("entries", game.entries(1), entry + 1);
            }
            Check.refused("a 61st entry", game, Edge.FULL, () -> game.order(1, 1, 1, false, 1));
            Check.due("the last one's letter", game.entryOf(1, 59), 'i');
            Check.refused("entry 60", game, Edge.INDEX, () -> game.entryOf(1, 60));
            Check.due("the other castle's row is its own", game.entries(0), 0);
        });
        Edge.of("An entry is written to some towers; it is committed as soon as a quorum of towers has it, and stays so,"
            + " whatever burns.", () -> {
                for (int towers = 2; towers <= 7; towers++) {
                    committedAt(towers);
                }
                Castlequorum game = Scene.oneNear();
                game.order(0, 0, 0, false, 1);
                game.burn(0, 0);
                game.spread(0);
                Check.due("one that burnt ahead of a quorum", game.isCommitted(0, 0), false);
            });
    }

    /** An entry at half of the towers, then spread to one more. */
    private static void committedAt(int towers) {
        int half = towers / 2;
        Castlequorum game = Scene.ofTowers(towers);
        game.lease(0, 0, 0, 20);
        Scene.orderTo(game, 0, (1 << half) - 1);
        Check.due("at half of " + towers, game.isCommitted(0, 0), false);
        for (int tower = half + 1; tower < towers; tower++) {
            game.fall(0, tower);
        }
        Check.due("spread to one more", game.spread(0), 1);
        Check.due("at more than half of " + towers, game.isCommitted(0, 0), true);
        for (int tower = 0; tower < towers; tower++) {
            game.burn(0, tower);
            Check.due("when so many have burnt: " + (tower + 1), game.isCommitted(0, 0), true);
        }
        Check.due("it counts", game.counting(0), 1);
    }

    private static void counting() {
        Edge.of("An entry counts if it is committed, or struck, and all ahead of it count; others hang.", () -> {
            Castlequorum game = Scene.ofTowers(3);
            Check.due("none of none", game.counting(0), 0);
            game.lease(0, 0, 0, 20);
            Scene.orderTo(game, 0, 0b111);
            Check.due("the first, committed", game.counting(0), 1);
            Scene.orderTo(game, 0, 0b001);
            Check.due("the second hangs", game.counting(0), 1);
            Scene.orderTo(game, 0, 0b110);
            Check.due("the third, committed, hangs behind it", game.counting(0), 1);
            Scene.orderTo(game, 0, 0b100);
            game.burn(0, 0);
            Check.due("the second struck", game.strike(0), 1);
            Check.due("struck, and committed behind it", game.counting(0), 3);
            Check.due("gold without the struck one and the last", game.gold(0, false), 98);
            game.spread(0);
            Check.due("all", game.counting(0), 4);
            Castlequorum other = Scene.oneNear();
            other.order(0, 0, 0, false, 1);
            Check.due("the only one hangs", other.counting(0), 0);
        });
        Edge.of("Gold, held gold and purses of a castle are what comes of its entries that count, one by one, from its gold"
            + " as it was built:", () -> {
                for (int gold : new int[] {0, 1, 9999}) {
                    Castlequorum game = Scene.ofTowers(3, gold);
                    Check.due("gold as built", game.gold(0, false), gold);
                    Check.due("held gold", game.gold(0, true), 0);
                    Check.due("purses", game.purse(0, 0) + game.purse(1, 0) + game.purse(2, 0) + game.purse(3, 0), 0);
                }
                Castlequorum game = new Castlequorum();
                for (int lord = 0; lord < 3; lord++) {
                    game.lease(lord, 0, lord, 20);
                }
                game.order(0, 0, 0, false, 60);
                for (int lord = 0; lord < 3; lord++) {
                    Scene.nearOnly(game, 0, lord, 1);
                }
                game.order(1, 0, 1, false, 40);
                game.order(2, 0, 2, false, 30);
                game.order(0, 0, 0, true, 60);
                game.order(2, 0, 2, false, 10);
                game.spread(0);
                Check.due("the first takes all that is left", game.purse(1, 0), 40);
                Check.due("the second finds nothing, and is not tried again; the last finds some", game.purse(2, 0), 10);
                Check.due("the third puts all in", game.purse(0, 0), 0);
                Check.due("gold", game.gold(0, false), 50);
            });
    }

    private static void amounts() {
        Edge.of("an order 'i' puts an amount from the purse of a lord into the castle, if the purse has as much,", () -> {
            for (int second = 19; second <= 21; second++) {
                Castlequorum game = Scene.leased();
                game.order(0, 0, 0, false, 60);
                Scene.nearOnly(game, 0, 0, 1);
                game.order(0, 0, 0, true, 40);
                game.order(0, 0, 0, true, second);
                game.spread(0);
                int left = second > 20 ? 20 : 20 - second;
                Check.due("the purse of 60 after 40 and " + second, game.purse(0, 0), left);
                Check.due("gold", game.gold(0, false), 100 - left);
            }
        });
        Edge.of("an order 'o' takes it out into the purse, if the gold less the held gold is as much, a raid 'r' likewise;", () -> {
            for (int second = 24; second <= 26; second++) {
                Castlequorum game = Scene.leased();
                game.truce(0, 40);
                game.prepare(0, 0, 0);
                Scene.nearOnly(game, 0, 0, 1);
                game.order(0, 0, 0, false, 35);
                game.order(0, 0, 0, false, second);
                game.spread(0);
                int taken = second > 25 ? 35 : 35 + second;
                Check.due("the purse after 35 and " + second + " of 60 not held", game.purse(0, 0), taken);
                Check.due("gold", game.gold(0, false), 100 - taken);
                Check.due("held gold", game.gold(0, true), 40);
            }
            Castlequorum game = Scene.leased();
            game.truce(0, 40);
            game.prepare(0, 0, 0);
            game.scout(0, 0);
            Check.due("a raid", game.raid(0, 0), 'w');
            Check.due("the purse after it", game.purse(0, 0), 30);
            Check.due("gold after it", game.gold(0, false), 70);
            Check.due("held gold after it", game.gold(0, true), 40);
        });
        Edge.of("a struck entry does nothing. Orders.", () -> {
            Castlequorum game = Scene.leased();
            game.order(0, 0, 0, false, 50);
            Scene.nearOnly(game, 0, 0, 1);
            game.order(0, 0, 0, false, 20);
            game.order(0, 0, 0, true, 30);
            game.burn(0, 0);
            game.strike(0);
            Check.due("all count", game.counting(0), 3);
            Check.due("gold", game.gold(0, false), 50);
            Check.due("the purse", game.purse(0, 0), 50);
        });
    }

    private static void truceEntries() {
        Edge.of("a preparation 'p' holds the amount of a truce, at the castle from which it moves gold;", () -> {
            for (int from = 0; from < 2; from++) {
                Castlequorum game = new Castlequorum();
                game.truce(from, 100);
                game.prepare(0, 0, 0);
                game.prepare(0, 1, 0);
                Check.due("held at the castle from which", game.gold(from, true), 100);
                Check.due("gold there", game.gold(from, false), 100);
                Check.due("held at the other one", game.gold(1 - from, true), 0);
                Check.due("gold there", game.gold(1 - from, false), 100);
            }
        });
        Edge.of("a settling 'd' of a truce that is done moves it: from the castle from which, where it is held no more, or into"
            + " the other one;", () -> {
                for (int from = 0; from < 2; from++) {
                    Castlequorum game = decided(from, true);
                    game.settle(from);
                    Check.due("gold of the castle from which", game.gold(from, false), 0);
                    Check.due("held there", game.gold(from, true), 0);
                    Check.due("the other one ahead of its own settling", game.gold(1 - from, false), 100);
                    game.settle(1 - from);
                    Check.due("gold of the other one", game.gold(1 - from, false), 200);
                    Check.due("held there", game.gold(1 - from, true), 0);
                }
                Castlequorum game = new Castlequorum();
                game.build(0, 1, 9999);
                game.build(1, 1, 9999);
                game.truce(1, 999);
                game.prepare(0, 0, 0);
                game.prepare(0, 1, 0);
                game.decide(0, true);
                game.settle(0);
                Check.due("more than a castle can be built with", game.gold(0, false), 10998);
            });
        Edge.of("a settling 'a' of one that is aborted ends that it is held;", () -> {
            for (int from = 0; from < 2; from++) {
                Castlequorum game = decided(from, false);
                Check.due("held when it is decided", game.gold(from, true), 100);
                game.settle(from);
                game.settle(1 - from);
                for (int castle = 0; castle < 2; castle++) {
                    Check.due("held", game.gold(castle, true), 0);
                    Check.due("gold", game.gold(castle, false), 100);
                }
            }
        });
    }

    /** A truce of all 100 is prepared at both castles, and decided. */
    private static Castlequorum decided(int from, boolean isDone) {
        Castlequorum game = new Castlequorum();
        game.truce(from, 100);
        game.prepare(0, 0, 0);
        game.prepare(0, 1, 0);
        game.decide(0, isDone);
        return game;
    }

    private static void orders() {
        Edge.of("An order, of an amount from 1 to 999, is told at a gate that is open for the lord.", () -> {
            Edge.bounds(Scene::unlike, (game, amount) -> game.order(3, 1, 2, false, amount), 1, 3, 999, 3, Edge.ARGUMENT);
            Castlequorum game = Scene.leased();
            game.lease(1, 0, 1, 19);
            Check.refused("at a gate that is open for another", game, Edge.CANNOT, () -> game.order(0, 0, 1, false, 1));
            Check.refused("at a gate that is open for nobody", game, Edge.CANNOT, () -> game.order(0, 0, 2, false, 1));
            game.wait(19);
            Check.due("at the last tick of the lease", game.order(0, 0, 0, false, 1), 0);
            Check.refused("at the tick of the lease", game, Edge.CANNOT, () -> game.order(1, 0, 1, false, 1));
        });
        Edge.of("There must be as much now: in the purse, or in gold less held gold.", () -> {
            Castlequorum game = Scene.leased();
            game.truce(0, 30);
            game.prepare(0, 0, 0);
            Check.refused("one more than gold less held gold", game, Edge.CANNOT, () -> game.order(0, 0, 0, false, 71));
            Check.refused("one from an empty purse", game, Edge.CANNOT, () -> game.order(0, 0, 0, true, 1));
            Check.due("all gold less held gold", game.order(0, 0, 0, false, 70), 1);
            Check.refused("one when none is left", game, Edge.CANNOT, () -> game.order(0, 0, 0, false, 1));
            Check.refused("one more than the purse", game, Edge.CANNOT, () -> game.order(0, 0, 0, true, 71));
            Check.due("all of the purse", game.order(0, 0, 0, true, 70), 2);
            Scene.nearOnly(game, 0, 0, 1);
            game.order(0, 0, 0, false, 70);
            Check.due("what hangs takes nothing now", game.order(0, 0, 0, false, 70), 4);
            Check.refused("nor is it in the purse now", game, Edge.CANNOT, () -> game.order(0, 0, 0, true, 1));
        });
        Edge.of("It is written to the towers that are near.", () -> {
            for (int mask = 1; mask < 16; mask++) {
                Castlequorum game = Scene.ofTowers(4);
                game.lease(0, 0, 0, 20);
                game.fall(0, 1);
                game.rise(0, 1);
                Scene.orderTo(game, 0, mask);
                for (int tower = 0; tower < 4; tower++) {
                    Check.due("tower " + tower + " of " + mask, game.has(0, tower, 0), (mask >> tower & 1) != 0);
                }
            }
            Castlequorum game = Scene.leased();
            game.fall(0, 0);
            Scene.nearOnly(game, 0, 0, 1);
            Check.refused("when none is near", game, Edge.CANNOT, () -> game.order(0, 0, 0, false, 1));
        });
    }

    private static void spreadAndStrike() {
        Edge.of("To spread the entries of a castle writes to each tower that is up all entries that some tower that is up has,"
            + " committed or not.", () -> {
                Castlequorum game = Scene.ofTowers(5);
                Check.due("no entry", game.spread(0), 0);
                game.lease(0, 0, 0, 20);
                Scene.orderTo(game, 0, 0b00001);
                Scene.orderTo(game, 0, 0b11100);
                Scene.orderTo(game, 0, 0b10000);
                game.fall(0, 4);
                Check.due("what towers that are up got", game.spread(0), 3 + 2);
                for (int tower = 0; tower < 4; tower++) {
                    Check.due("the hanging one", game.has(0, tower, 0), true);
                    Check.due("the committed one", game.has(0, tower, 1), true);
                    Check.due("the one that only a fallen tower has", game.has(0, tower, 2), false);
                }
                Check.due("a tower that is down gets nothing", game.has(0, 4, 0), false);
                Check.due("again", game.spread(0), 0);
                Scene.upOnly(game, 0, 0b10000);
                Check.due("one alone has none to get it from", game.spread(0), 0);
                Scene.upOnly(game, 0, 0b11111);
                Check.due("what the risen one got and gave", game.spread(0), 1 + 4);
                Scene.upOnly(game, 0, 0);
                Check.due("none is up", game.spread(0), 0);
            });
        Edge.of("Entries that hang and that no tower has, committed or not, can be struck.", () -> {
            Castlequorum game = Scene.ofTowers(3);
            Check.due("none of none", game.strike(0), 0);
            game.lease(0, 0, 0, 20);
            Scene.orderTo(game, 0, 0b010);
            Scene.orderTo(game, 0, 0b001);
            Scene.orderTo(game, 0, 0b101);
            game.fall(0, 0);
            game.fall(0, 1);
            game.fall(0, 2);
            Check.due("what only fallen towers have", game.strike(0), 0);
            game.burn(0, 0);
            Check.due("what no tower has: the one that is not committed", game.strike(0), 1);
            game.burn(0, 2);
            Check.due("and the one that is", game.strike(0), 1);
            Check.due("they hang still", game.counting(0), 0);
            Check.due("the first is left", game.entryOf(0, 0), 'o');
            game.burn(0, 1);
            Check.due("the last that hangs", game.strike(0), 1);
            Check.due("all count", game.counting(0), 3);
            Castlequorum lost = Scene.ofTowers(3);
            lost.lease(0, 0, 0, 20);
            Scene.orderTo(lost, 0, 0b001);
            Scene.orderTo(lost, 0, 0b011);
            lost.burn(0, 0);
            lost.burn(0, 1);
            Check.due("both hang when they are struck, the one that is committed, too", lost.strike(0), 2);
            Check.due("its letter", lost.entryOf(0, 1), '-');
            Check.due("gold", lost.gold(0, false), 100);
            Castlequorum other = Scene.filled(60);
            for (int tower = 0; tower < 3; tower++) {
                other.burn(0, tower);
            }
            Check.due("what counts and no tower has", other.strike(0), 0);
            Check.due("its letter", other.entryOf(0, 0), 'o');
        });
    }
}
