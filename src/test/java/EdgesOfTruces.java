/** The sentences of promises 31 to 35: truce, prepare, decide, settle, truceOf. */
final class EdgesOfTruces {
    private static final String FULL_ROW = "Throws `IllegalStateException` if the castle has 60 entries";
    private static final String NUMBER = "`truce`: the number of the truce";

    private EdgesOfTruces() {
    }

    static void play() {
        truce();
        prepareNumbers();
        prepareRefusals();
        decide();
        settleAnswers();
        settleRefusals();
        truceOf();
    }

    /** Eight truces of 10 from castle 0. */
    private static Castlequorum eight() {
        Castlequorum game = new Castlequorum();
        for (int truce = 0; truce < 8; truce++) {
            game.truce(0, 10);
        }
        return game;
    }

    private static void truce() {
        Edge.in("Promise 31");
        Edge.of("Begins a truce.", () -> {
            Castlequorum game = Scene.unlike();
            game.truce(0, 10);
            Check.due("it is not prepared at castle 0", game.truceOf(1, 0), '-');
            Check.due("nor at castle 1", game.truceOf(1, 1), '-');
            Check.due("nothing is held", game.gold(0, true), 0);
            Check.due("it is not decided", game.decide(1, false), 0);
        });
        Edge.of("`from`: the castle from which gold moves", () -> Edge.castles(Castlequorum::new, (game, from) -> {
            game.truce(from, 10);
            game.prepare(0, 0, 0);
            game.prepare(0, 1, 0);
            return game.gold(0, true) + " and " + game.gold(1, true);
        }, "10 and 0", "0 and 10"));
        Edge.of("`amount`: the amount", () -> Edge.bounds(() -> Scene.ofTowers(3, 999), (game, amount) -> {
            game.truce(0, amount);
            game.prepare(0, 0, 0);
            return game.gold(0, true);
        }, 1, 1, 999, 999, Edge.ARGUMENT));
        Edge.of("Returns its number.", () -> {
            Castlequorum game = new Castlequorum();
            for (int truce = 0; truce < 8; truce++) {
                Check.due("its number", game.truce(truce % 2, 1 + truce), truce);
                game.decide(truce, false);
            }
        });
        Edge.of("Throws `IndexOutOfBoundsException` if there is no such castle", () -> {
            for (Castlequorum game : new Castlequorum[] {new Castlequorum(), eight()}) {
                for (int castle : new int[] {-1, 2, Integer.MIN_VALUE, Integer.MAX_VALUE}) {
                    Check.refused("castle " + castle, game, Edge.INDEX, () -> game.truce(castle, 1));
                    Check.refused("castle " + castle + ", of 0", game, Edge.INDEX, () -> game.truce(castle, 0));
                }
            }
        });
        Edge.of("Throws `IllegalArgumentException` if the amount is not 1 to 999", () -> {
            for (Castlequorum game : new Castlequorum[] {new Castlequorum(), eight()}) {
                for (int amount : new int[] {0, -1, 1000, Integer.MIN_VALUE, Integer.MAX_VALUE}) {
                    Check.refused("of " + amount, game, Edge.ARGUMENT, () -> game.truce(1, amount));
                }
            }
        });
        Edge.of("Throws `IllegalStateException` if there are 8", () -> {
            Castlequorum game = new Castlequorum();
            for (int truce = 0; truce < 7; truce++) {
                game.truce(0, 10);
            }
            Check.due("with 7", game.truce(1, 999), 7);
            Check.refused("with 8", game, Edge.FULL, () -> game.truce(0, 1));
            game.prepare(0, 0, 0);
            game.decide(0, false);
            game.settle(0);
            game.decide(7, false);
            Check.refused("when some are settled", game, Edge.FULL, () -> game.truce(0, 1));
            game.build(0, 3, 100);
            game.build(1, 3, 100);
            Check.refused("when both castles are built anew", game, Edge.FULL, () -> game.truce(1, 1));
        });
    }

    private static void prepareNumbers() {
        Edge.in("Promise 32");
        Edge.of("Prepares a truce at a castle.", () -> {
            Castlequorum game = eight();
            game.prepare(4, 1, 0);
            for (int truce = 0; truce < 8; truce++) {
                Check.due("at castle 1", game.truceOf(truce, 1), truce == 4 ? 'p' : '-');
                Check.due("at castle 0", game.truceOf(truce, 0), '-');
            }
            Check.due("the entry", game.entryOf(1, 0), 'p');
        });
        Edge.of(NUMBER, () -> {
            Edge.bounds(EdgesOfTruces::eight, (game, truce) -> game.prepare(truce, 0, 0), 0, 0, 7, 0, Edge.INDEX);
            Castlequorum game = new Castlequorum();
            Check.refused("truce 0 of none", game, Edge.INDEX, () -> game.prepare(0, 0, 0));
        });
        Edge.of("`castle`: the castle, 0 or 1", () -> Edge.castles(() -> {
            Castlequorum game = Scene.filled(4);
            game.truce(0, 1);
            return game;
        }, (game, castle) -> game.prepare(0, castle, 0), 4, 0));
        Edge.of("`lord`: the lord, 0 to 3", () -> Edge.lords(() -> {
            Castlequorum game = eight();
            game.cut(0, 0, 0, true);
            return game;
        }, (game, lord) -> {
            game.prepare(0, 0, lord);
            return game.has(0, 0, 0);
        }, false, true));
        Edge.of("Returns the number of the entry.", () -> {
            Castlequorum game = eight();
            for (int truce = 0; truce < 8; truce++) {
                Check.due("the number", game.prepare(truce, 0, truce % 4), 2 * truce);
                game.decide(truce, false);
                game.settle(0);
            }
            Castlequorum full = Scene.filled(59);
            full.truce(0, 1);
            Check.due("the last number", full.prepare(0, 0, 0), 59);
        });
        Edge.of("Throws `IndexOutOfBoundsException` if there is no such truce, castle or lord", () -> {
            Castlequorum game = Scene.unlike();
            int[][] rows = {{-1, 0, 0}, {1, 0, 0}, {8, 0, 0}, {0, -1, 0}, {0, 2, 0}, {0, 0, -1}, {0, 0, 4}, {0, 1, 4}};
            for (int[] row : rows) {
                Check.refused("truce " + row[0] + ", castle " + row[1] + ", lord " + row[2], game, Edge.INDEX,
                    () -> game.prepare(row[0], row[1], row[2]));
            }
        });
    }

    private static void prepareRefusals() {
        Edge.of("Throws `UnsupportedOperationException` if it is prepared there, or cannot be", () -> {
            Castlequorum game = eight();
            game.prepare(0, 0, 0);
            Check.refused("prepared there", game, Edge.CANNOT, () -> game.prepare(0, 0, 0));
            Check.refused("by another lord", game, Edge.CANNOT, () -> game.prepare(0, 0, 1));
            Check.refused("another one is", game, Edge.CANNOT, () -> game.prepare(7, 0, 0));
            game.decide(0, false);
            game.settle(0);
            Check.refused("settled there", game, Edge.CANNOT, () -> game.prepare(0, 0, 0));
            Check.refused("decided", game, Edge.CANNOT, () -> game.prepare(0, 1, 0));
            game.truceOf(0, 1);
            game.cut(1, 0, 2, true);
            game.fall(1, 1);
            Check.refused("no quorum is near", game, Edge.CANNOT, () -> game.prepare(1, 1, 2));
            Check.due("a quorum is near", game.prepare(1, 1, 1), 0);
            game.lease(0, 0, 0, 20);
            game.order(0, 0, 0, false, 91);
            Check.refused("too little gold", game, Edge.CANNOT, () -> game.prepare(1, 0, 0));
            game.order(0, 0, 0, true, 1);
            Scene.orderTo(game, 0, 0b001);
            Check.refused("an entry hangs", game, Edge.CANNOT, () -> game.prepare(1, 0, 1));
            game.burn(0, 0);
            game.strike(0);
            Check.due("as much gold, and none hangs", game.prepare(1, 0, 1), 5);
        });
        Edge.of(FULL_ROW, () -> {
            Castlequorum game = Scene.filled(58);
            game.truce(0, 10);
            game.truce(1, 10);
            Check.due("with 58", game.prepare(0, 0, 0), 58);
            game.decide(0, false);
            game.settle(0);
            Check.refused("with 60, at the castle into which", game, Edge.FULL, () -> game.prepare(1, 0, 0));
            Check.due("at the other castle", game.prepare(1, 1, 0), 0);
            game.build(0, 3, 100);
            Check.due("when it is built anew", game.prepare(1, 0, 0), 0);
        });
    }

    /** Truce 0 of 10 from castle 0, prepared at the castles of a mask. */
    private static Castlequorum preparedAt(int mask) {
        Castlequorum game = eight();
        for (int castle = 0; castle < 2; castle++) {
            if ((mask >> castle & 1) != 0) {
                game.prepare(0, castle, 0);
            }
        }
        return game;
    }

    private static void decide() {
        Edge.in("Promise 33");
        Edge.of("Decides a truce.", () -> {
            Castlequorum game = preparedAt(3);
            game.decide(0, true);
            Check.due("it is prepared as it was", game.truceOf(0, 0), 'p');
            Check.due("no entry comes of it", game.entries(0) + game.entries(1), 2);
            Check.due("held as it was", game.gold(0, true), 10);
            Check.due("another one is not decided", game.decide(1, false), 0);
        });
        Edge.of(NUMBER, () -> {
            Edge.bounds(() -> preparedAt(2), (game, truce) -> game.decide(truce, false), 0, 1, 7, 0, Edge.INDEX);
            Castlequorum game = new Castlequorum();
            Check.refused("truce 0 of none", game, Edge.INDEX, () -> game.decide(0, false));
        });
        Edge.of("`isDone`: whether it is to be done", () -> {
            for (boolean isDone : new boolean[] {false, true}) {
                Castlequorum game = preparedAt(3);
                game.decide(0, isDone);
                game.settle(0);
                game.settle(1);
                Check.due("how it is settled", game.truceOf(0, 1), isDone ? 'd' : 'a');
                Check.due("gold", game.gold(1, false), isDone ? 110 : 100);
            }
        });
        Edge.of("Returns at how many castles it is prepared.", () -> {
            for (int mask = 0; mask < 4; mask++) {
                Check.due("aborted, at " + mask, preparedAt(mask).decide(0, false), Integer.bitCount(mask));
            }
            Check.due("done", preparedAt(3).decide(0, true), 2);
        });
        Edge.of("Throws `IndexOutOfBoundsException` if there is no such truce", () -> {
            Castlequorum game = Scene.unlike();
            for (int truce : new int[] {-1, 1, 7, 8, Integer.MIN_VALUE, Integer.MAX_VALUE}) {
                Check.refused("truce " + truce, game, Edge.INDEX, () -> game.decide(truce, true));
                Check.refused("truce " + truce, game, Edge.INDEX, () -> game.decide(truce, false));
            }
        });
        Edge.of("Throws `UnsupportedOperationException` if it is decided, or to be done and not prepared at both", () -> {
            for (int mask = 0; mask < 3; mask++) {
                Castlequorum game = preparedAt(mask);
                Check.refused("to be done, at " + mask, game, Edge.CANNOT, () -> game.decide(0, true));
                game.decide(0, false);
                Check.refused("decided", game, Edge.CANNOT, () -> game.decide(0, false));
            }
            Castlequorum game = preparedAt(3);
            game.decide(0, true);
            Check.refused("decided to be done", game, Edge.CANNOT, () -> game.decide(0, true));
            Check.refused("decided to be done", game, Edge.CANNOT, () -> game.decide(0, false));
            game.settle(0);
            Check.refused("settled at one", game, Edge.CANNOT, () -> game.decide(0, false));
            game.settle(1);
            Check.refused("settled at both", game, Edge.CANNOT, () -> game.decide(0, true));
        });
    }

    /** Truce 7 is aborted and prepared at castle 0, truce 2 at castle 1. */
    private static Castlequorum twoAborted() {
        Castlequorum game = eight();
        game.prepare(7, 0, 0);
        game.prepare(2, 1, 0);
        game.decide(7, false);
        game.decide(2, false);
        return game;
    }

    private static void settleAnswers() {
        Edge.in("Promise 34");
        Edge.of("Settles the truce that is prepared at a castle.", () -> {
            Castlequorum game = twoAborted();
            game.settle(1);
            Check.due("that truce", game.truceOf(2, 1), 'a');
            Check.due("its entry", game.entryOf(1, 1), 'a');
            Check.due("the other castle's", game.truceOf(7, 0), 'p');
            Check.due("the other castle's entries", game.entries(0), 1);
        });
        Edge.of("`castle`: the castle, 0 or 1", () -> Edge.castles(EdgesOfTruces::twoAborted, Castlequorum::settle, 7, 2));
        Edge.of("Returns the number of the truce.", () -> {
            Castlequorum game = eight();
            for (int truce = 7; truce >= 0; truce--) {
                game.prepare(truce, 0, 0);
                game.prepare(truce, 1, 0);
                game.decide(truce, truce % 2 == 0);
                Check.due("at castle 0", game.settle(0), truce);
                Check.due("at castle 1", game.settle(1), truce);
            }
        });
        Edge.of("Throws `IndexOutOfBoundsException` if there is no such castle", () -> {
            Castlequorum game = twoAborted();
            for (int castle : new int[] {-1, 2, Integer.MIN_VALUE, Integer.MAX_VALUE}) {
                Check.refused("castle " + castle, game, Edge.INDEX, () -> game.settle(castle));
            }
        });
    }

    private static void settleRefusals() {
        Edge.of("Throws `UnsupportedOperationException` if no truce that is decided is prepared and not settled there, or it"
            + " cannot be", () -> {
                Castlequorum game = new Castlequorum();
                Check.refused("no truce", game, Edge.CANNOT, () -> game.settle(0));
                game.truce(0, 10);
                Check.refused("only begun", game, Edge.CANNOT, () -> game.settle(0));
                game.truce(0, 10);
                game.decide(1, false);
                Check.refused("another is decided", game, Edge.CANNOT, () -> game.settle(0));
                game.prepare(0, 0, 0);
                Check.refused("prepared, and not decided", game, Edge.CANNOT, () -> game.settle(0));
                game.prepare(0, 1, 0);
                game.decide(0, true);
                game.lease(0, 0, 0, 20);
                Scene.orderTo(game, 0, 0b100);
                Check.refused("an entry hangs", game, Edge.CANNOT, () -> game.settle(0));
                game.spread(0);
                game.fall(0, 0);
                game.burn(0, 1);
                Check.refused("1 of 3 up", game, Edge.CANNOT, () -> game.settle(0));
                game.rise(0, 0);
                Check.due("2 of 3 up, none hangs", game.settle(0), 0);
                Check.refused("settled there", game, Edge.CANNOT, () -> game.settle(0));
                Check.due("at the other castle", game.settle(1), 0);
                Check.refused("settled there, too", game, Edge.CANNOT, () -> game.settle(1));
            });
        Edge.of(FULL_ROW, () -> {
            Castlequorum game = Scene.filled(58);
            game.truce(0, 10);
            game.prepare(0, 0, 0);
            game.prepare(0, 1, 0);
            game.decide(0, true);
            game.order(0, 0, 0, false, 1);
            Check.refused("with 60", game, Edge.FULL, () -> game.settle(0));
            Check.due("at the other castle", game.settle(1), 0);
            Check.due("it is prepared there still", game.truceOf(0, 0), 'p');
            Check.due("held still", game.gold(0, true), 10);
            Castlequorum other = Scene.filled(58);
            other.truce(0, 10);
            other.prepare(0, 0, 0);
            other.decide(0, false);
            Check.due("with 59", other.settle(0), 0);
            Check.due("entries", other.entries(0), 60);
        });
    }

    private static void truceOf() {
        Edge.in("Promise 35");
        Edge.of("Returns how a truce is at a castle.", () -> {
            Castlequorum game = preparedAt(1);
            Check.due("at castle 0", game.truceOf(0, 0), 'p');
            Check.due("at castle 1", game.truceOf(0, 1), '-');
        });
        Edge.of(NUMBER, () -> {
            Edge.bounds(() -> {
                Castlequorum game = eight();
                game.prepare(7, 0, 0);
                return game;
            }, (game, truce) -> game.truceOf(truce, 0), 0, '-', 7, 'p', Edge.INDEX);
            Edge.bounds(Scene::unlike, (game, truce) -> game.truceOf(truce, 1), 0, 'p', 0, 'p', Edge.INDEX);
        });
        Edge.of("`castle`: the castle, 0 or 1",
            () -> Edge.castles(Scene::unlike, (game, castle) -> game.truceOf(0, castle), '-', 'p'));
        Edge.of("Returns '-' not prepared, 'p' prepared, 'd' settled as done, 'a' settled as aborted.", () -> {
            Castlequorum game = preparedAt(0);
            Check.due("begun", game.truceOf(0, 0), '-');
            game.prepare(0, 0, 0);
            game.prepare(0, 1, 0);
            Check.due("prepared", game.truceOf(0, 0), 'p');
            game.decide(0, true);
            Check.due("decided", game.truceOf(0, 0), 'p');
            game.settle(0);
            Check.due("settled as done", game.truceOf(0, 0), 'd');
            Check.due("at the other castle", game.truceOf(0, 1), 'p');
            game.prepare(1, 0, 0);
            game.decide(1, false);
            game.settle(0);
            Check.due("settled as aborted", game.truceOf(1, 0), 'a');
            Check.due("at the other castle, never prepared", game.truceOf(1, 1), '-');
            game.decide(2, false);
            Check.due("aborted, and never prepared", game.truceOf(2, 0), '-');
            game.build(0, 3, 100);
            Check.due("when the castle is built anew", "" + game.truceOf(0, 0) + game.truceOf(1, 0), "da");
        });
        Edge.of("Throws `IndexOutOfBoundsException` if there is no such truce or castle", () -> {
            Castlequorum game = Scene.unlike();
            int[][] rows = {{-1, 0}, {1, 0}, {8, 0}, {Integer.MAX_VALUE, 0}, {0, -1}, {0, 2}, {0, Integer.MIN_VALUE}};
            for (int[] row : rows) {
                Check.refused("truce " + row[0] + ", castle " + row[1], game, Edge.INDEX,
                    () -> game.truceOf(row[0], row[1]));
            }
            Castlequorum fresh = new Castlequorum();
            Check.refused("truce 0 of none", fresh, Edge.INDEX, () -> fresh.truceOf(0, 0));
        });
    }
}
