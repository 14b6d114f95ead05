/** The sentences of the Terms on truces. */
final class TermsOfTruces {
    private TermsOfTruces() {
    }

    static void play() {
        beginning();
        preparedByQuorum();
        preparedWhere();
        preparedWithGold();
        deciding();
        settling();
    }

    private static void beginning() {
        Edge.of("A truce moves an amount, 1 to 999, from one castle to the other one; at most 8 are numbered from 0.", () -> {
            Edge.bounds(Castlequorum::new, (game, amount) -> game.truce(0, amount), 1, 0, 999, 0, Edge.ARGUMENT);
            for (int amount : new int[] {1, 999}) {
                Castlequorum game = Scene.ofTowers(3, 1000);
                moves(game, 0, 0, amount);
                Check.due("what is left", game.gold(0, false), 1000 - amount);
                Check.due("what came", game.gold(1, false), 100 + amount);
                moves(game, 1, 1, amount);
                Check.due("what came back", game.gold(0, false), 1000);
                Check.due("what is left", game.gold(1, false), 100);
            }
            Castlequorum game = new Castlequorum();
            for (int truce = 0; truce < 8; truce++) {
                moves(game, truce, truce % 2, 1);
            }
            Check.refused("a ninth when all are settled", game, Edge.FULL, () -> game.truce(0, 1));
            Check.due("the last one", game.truceOf(7, 0), 'd');
            Check.refused("truce 8", game, Edge.INDEX, () -> game.truceOf(8, 0));
        });
    }

    /** A truce that is begun, prepared, done and settled at both castles. */
    private static void moves(Castlequorum game, int number, int from, int amount) {
        Check.due("the number of a truce", game.truce(from, amount), number);
        game.prepare(number, 0, 0);
        game.prepare(number, 1, 0);
        game.decide(number, true);
        game.settle(0);
        game.settle(1);
    }

    private static void preparedByQuorum() {
        Edge.of("It is prepared at a castle by a lord to whom a quorum of its towers is near,", () -> {
            Castlequorum game = Scene.ofTowers(4);
            game.truce(0, 10);
            Scene.nearOnly(game, 0, 2, 0b0110);
            Check.refused("2 of 4 near", game, Edge.CANNOT, () -> game.prepare(0, 0, 2));
            game.cut(0, 0, 2, false);
            game.fall(0, 1);
            Check.refused("3 of 4 not cut, and one fallen", game, Edge.CANNOT, () -> game.prepare(0, 0, 2));
            game.rise(0, 1);
            Check.due("3 of 4 near, one waiting", game.prepare(0, 0, 2), 0);
        });
        Edge.of("an entry 'p' is written to the towers that are near.", () -> {
            Castlequorum game = Scene.ofTowers(7);
            game.truce(1, 999);
            Scene.nearOnly(game, 0, 3, 0b1011110);
            game.fall(0, 1);
            Check.due("its number", game.prepare(0, 0, 3), 0);
            Check.due("its letter", game.entryOf(0, 0), 'p');
            for (int tower = 0; tower < 7; tower++) {
                Check.due("tower " + tower, game.has(0, tower, 0), (0b1011100 >> tower & 1) != 0);
            }
            Check.due("truceOf", game.truceOf(0, 0), 'p');
        });
    }

    private static void preparedWhere() {
        Edge.of("if no entry hangs there,", () -> {
            Castlequorum game = Scene.oneNear();
            game.truce(0, 10);
            game.order(0, 0, 0, false, 10);
            Check.refused("where the only entry hangs", game, Edge.CANNOT, () -> game.prepare(0, 0, 1));
            Check.due("at the other castle none does", game.prepare(0, 1, 1), 0);
            game.spread(0);
            Scene.nearOnly(game, 0, 0, 0b111);
            game.order(0, 0, 0, false, 10);
            Scene.orderTo(game, 0, 0b001);
            Check.refused("where the last of three hangs", game, Edge.CANNOT, () -> game.prepare(0, 0, 1));
            game.burn(0, 0);
            Check.refused("where it hangs and no tower has it", game, Edge.CANNOT, () -> game.prepare(0, 0, 1));
            game.strike(0);
            Check.due("where it is struck", game.prepare(0, 0, 1), 3);
        });
        Edge.of("no other truce is prepared and not settled there,", () -> {
            Castlequorum game = new Castlequorum();
            for (int truce = 0; truce < 4; truce++) {
                game.truce(0, 1);
            }
            game.prepare(3, 0, 0);
            Check.refused("besides one that is not decided", game, Edge.CANNOT, () -> game.prepare(0, 0, 0));
            game.decide(3, false);
            Check.refused("besides one that is decided", game, Edge.CANNOT, () -> game.prepare(0, 0, 0));
            Check.due("at the other castle", game.prepare(0, 1, 0), 0);
            game.settle(0);
            Check.due("besides one that is settled", game.prepare(0, 0, 0), 2);
            game.decide(0, true);
            Check.refused("besides one that is decided to be done", game, Edge.CANNOT, () -> game.prepare(1, 0, 0));
            game.settle(0);
            Check.due("besides one that is settled as done", game.prepare(1, 0, 0), 4);
            Check.refused("besides one that is settled at the other castle alone", game, Edge.CANNOT,
                () -> game.prepare(1, 1, 0));
        });
        Edge.of("it is not decided, and,", () -> {
            Castlequorum game = new Castlequorum();
            game.truce(0, 1);
            game.truce(0, 1);
            game.truce(0, 1);
            game.decide(0, false);
            Check.refused("decided ahead of all", game, Edge.CANNOT, () -> game.prepare(0, 0, 0));
            game.prepare(1, 0, 0);
            game.decide(1, false);
            game.settle(0);
            Check.refused("decided when it is prepared at the other castle", game, Edge.CANNOT, () -> game.prepare(1, 1, 0));
            Check.due("one that is not decided", game.prepare(2, 0, 0), 2);
            Check.refused("prepared there already", game, Edge.CANNOT, () -> game.prepare(2, 0, 0));
        });
    }

    private static void preparedWithGold() {
        Edge.of("at the castle from which, gold less held gold is as much:", () -> {
            Castlequorum game = Scene.leased();
            game.build(1, 3, 0);
            game.truce(0, 100);
            game.truce(0, 99);
            game.order(0, 0, 0, false, 1);
            Check.refused("one more than there is", game, Edge.CANNOT, () -> game.prepare(0, 0, 0));
            Check.due("at the other castle there need be none", game.prepare(0, 1, 0), 0);
            Check.due("all that there is", game.prepare(1, 0, 0), 1);
            Check.due("none is left", game.gold(0, false) - game.gold(0, true), 0);
            game.decide(1, false);
            game.settle(0);
            Check.due("what is held no more is there again", game.gold(0, false) - game.gold(0, true), 99);
            game.order(0, 0, 0, true, 1);
            Check.due("as much as there is", game.prepare(0, 0, 0), 4);
        });
    }

    private static void deciding() {
        Edge.of("It can be decided once: to be done, if it is prepared at both castles, or to be aborted.", () -> {
            for (int mask = 0; mask < 4; mask++) {
                Castlequorum game = preparedAt(mask);
                if (mask < 3) {
                    Check.refused("to be done, prepared at less than both", game, Edge.CANNOT, () -> game.decide(0, true));
                } else {
                    Check.due("to be done", game.decide(0, true), 2);
                    Check.refused("to be aborted, when it is to be done", game, Edge.CANNOT, () -> game.decide(0, false));
                    Check.refused("to be done again", game, Edge.CANNOT, () -> game.decide(0, true));
                }
                Castlequorum other = preparedAt(mask);
                Check.due("to be aborted", other.decide(0, false), Integer.bitCount(mask));
                Check.refused("to be done, when it is to be aborted", other, Edge.CANNOT, () -> other.decide(0, true));
                Check.refused("to be aborted again", other, Edge.CANNOT, () -> other.decide(0, false));
            }
            Castlequorum game = preparedAt(0);
            Picture.ask(game, "decide", 0, true);
            game.prepare(0, 0, 0);
            Picture.ask(game, "decide", 0, true);
            game.prepare(0, 1, 0);
            Check.due("what was refused decides nothing", game.decide(0, true), 2);
            game.settle(0);
            game.settle(1);
            Check.refused("when it is settled", game, Edge.CANNOT, () -> game.decide(0, false));
        });
    }

    /** Truce 0, prepared at the castles of a mask. */
    private static Castlequorum preparedAt(int mask) {
        Castlequorum game = new Castlequorum();
        game.truce(0, 10);
        for (int castle = 0; castle < 2; castle++) {
            if ((mask >> castle & 1) != 0) {
                game.prepare(0, castle, 0);
            }
        }
        return game;
    }

    private static void settling() {
        Edge.of("A decided truce that is prepared at a castle is settled there as it is told, if a quorum of its towers is up and"
            + " no entry hangs there:", () -> {
                Castlequorum game = preparedAt(1);
                Check.refused("not decided", game, Edge.CANNOT, () -> game.settle(0));
                game.decide(0, false);
                Check.refused("not prepared there", game, Edge.CANNOT, () -> game.settle(1));
                game.lease(0, 0, 0, 20);
                Scene.orderTo(game, 0, 0b001);
                Check.refused("where an entry hangs", game, Edge.CANNOT, () -> game.settle(0));
                game.burn(0, 0);
                Check.refused("where it hangs and no tower has it", game, Edge.CANNOT, () -> game.settle(0));
                game.strike(0);
                game.fall(0, 1);
                Check.refused("1 of 3 up", game, Edge.CANNOT, () -> game.settle(0));
                game.rise(0, 1);
                Check.due("2 of 3 up, one waiting", game.settle(0), 0);
                Check.due("as it is told: aborted", game.truceOf(0, 0), 'a');
                Check.refused("settled there", game, Edge.CANNOT, () -> game.settle(0));
                Castlequorum other = preparedAt(3);
                other.decide(0, true);
                other.settle(1);
                Check.due("as it is told: done", other.truceOf(0, 1), 'd');
                Check.due("at the other castle it is prepared", other.truceOf(0, 0), 'p');
            });
        Edge.of("an entry 'd' or 'a' is written to all towers that are up. Exceptions.", () -> {
            for (int done = 0; done < 2; done++) {
                Castlequorum game = Scene.ofTowers(7);
                game.truce(0, 10);
                game.prepare(0, 0, 0);
                game.prepare(0, 1, 0);
                game.decide(0, done == 1);
                Scene.upOnly(game, 0, 0b1110010);
                for (int lord = 0; lord < 4; lord++) {
                    Scene.nearOnly(game, 0, lord, 0);
                }
                game.settle(0);
                Check.due("its letter", game.entryOf(0, 1), done == 1 ? 'd' : 'a');
                for (int tower = 0; tower < 7; tower++) {
                    Check.due("tower " + tower, game.has(0, tower, 1), (0b1110010 >> tower & 1) != 0);
                }
            }
        });
    }
}
