/** The sentences of promises 36 to 40: time, checksum, upShare, meanEntries, isSound. */
final class EdgesOfFigures {
    private static final String NO_CASTLE = "Throws `IndexOutOfBoundsException` if there is no such castle";
    private static final String CASTLE = "`castle`: the castle, 0 or 1";

    private EdgesOfFigures() {
    }

    static void play() {
        time();
        checksum();
        upShare();
        meanEntries();
        isSound();
    }

    private static void time() {
        Edge.in("Promise 36");
        Edge.of("Returns the tick.", () -> {
            Castlequorum game = new Castlequorum();
            Check.due("at first", game.time(), 0);
            Check.refused("a wait for 0", game, Edge.ARGUMENT, () -> game.wait(0));
            Check.due("after it", game.time(), 0);
            game.wait(1);
            Check.due("after one for 1", game.time(), 1);
            Scene.wait(game, 50000);
            Check.due("after many", game.time(), 50001);
            game.build(0, 3, 100);
            game.build(1, 3, 100);
            Check.due("when both castles are built anew", game.time(), 50001);
        });
    }

    private static long sumOf(int... figures) {
        long sum = 7;
        for (int figure : figures) {
            sum = 31 * sum + figure;
        }
        return sum;
    }

    private static void checksum() {
        Edge.in("Promise 37");
        Edge.of("Returns a sum over both castles.", () -> {
            Castlequorum game = Scene.unlike();
            Check.due("the sum", game.checksum(), sumOf(70, 30, 0, 0, 0, 4100, 0, 0, 0, 900));
        });
        Edge.of("Returns 7 at first, then for each castle, 0 first, 31 times itself plus its gold, and for each lord 31 times"
            + " itself plus the purse there.", () -> {
                Castlequorum game = new Castlequorum();
                Check.due("at first", game.checksum(), sumOf(100, 0, 0, 0, 0, 100, 0, 0, 0, 0));
                game.build(0, 1, 0);
                game.build(1, 1, 0);
                Check.due("nothing anywhere: 7 times 31, ten times", game.checksum(), 5737398008865607L);
                for (int castle = 0; castle < 2; castle++) {
                    game.build(castle, 1, 9999);
                    for (int lord = 0; lord < 4; lord++) {
                        game.lease(lord, castle, 0, 1);
                        game.order(lord, castle, 0, false, 1 + 10 * lord + castle);
                        game.wait(1);
                    }
                }
                Check.due("each figure in its place, in a sum that is no int", game.checksum(),
                    sumOf(9935, 1, 11, 21, 31, 9931, 2, 12, 22, 32));
                game.truce(0, 999);
                game.prepare(0, 0, 0);
                Check.due("held gold is gold, too", game.checksum(), sumOf(9935, 1, 11, 21, 31, 9931, 2, 12, 22, 32));
                Scene.upOnly(game, 0, 0);
                Check.due("whatever falls", game.checksum(), sumOf(9935, 1, 11, 21, 31, 9931, 2, 12, 22, 32));
                Castlequorum hanging = Scene.oneNear();
                hanging.order(0, 0, 0, false, 40);
                Check.due("without what hangs", hanging.checksum(), sumOf(100, 0, 0, 0, 0, 100, 0, 0, 0, 0));
                hanging.spread(0);
                Check.due("with what counts", hanging.checksum(), sumOf(60, 40, 0, 0, 0, 100, 0, 0, 0, 0));
            });
    }

    private static void noSuchCastle(Edge.Open open) {
        Castlequorum game = Scene.unlike();
        for (int castle : new int[] {-1, 2, 3, Integer.MIN_VALUE, Integer.MAX_VALUE}) {
            Check.refused("castle " + castle, game, Edge.INDEX, () -> open.call(game, castle));
        }
    }

    private static void upShare() {
        Edge.in("Promise 38");
        Edge.of("Returns the share of towers that are up.", () -> {
            Castlequorum game = Scene.ofTowers(7);
            Check.due("all", game.upShare(0), 1.0);
            Scene.upOnly(game, 0, 0b0000001);
            Check.due("one of seven", game.upShare(0), 1f / 7f);
            Scene.upOnly(game, 0, 0);
            Check.due("none", game.upShare(0), 0.0);
            Scene.upOnly(game, 0, 0b1111110);
            Check.due("six of seven, that wait", game.upShare(0), 6f / 7f);
            Scene.nearOnly(game, 0, 0, 0);
            Check.due("cut off from a lord", game.upShare(0), 6f / 7f);
        });
        Edge.of(CASTLE, () -> Edge.castles(() -> {
            Castlequorum game = Scene.unlike();
            game.fall(0, 1);
            return game;
        }, (game, castle) -> game.upShare(castle), 2f / 3f, 1f));
        Edge.of("Returns their number divided by that of all, both converted to float.", () -> {
            for (int towers = 1; towers <= 7; towers++) {
                for (int up = 0; up <= towers; up++) {
                    Castlequorum game = Scene.ofTowers(towers);
                    Scene.upOnly(game, 0, (1 << up) - 1);
                    Check.due(up + " of " + towers, game.upShare(0), (float) up / (float) towers);
                }
            }
        });
        Edge.of(NO_CASTLE, () -> noSuchCastle((game, castle) -> game.upShare(castle)));
    }

    private static void meanEntries() {
        Edge.in("Promise 39");
        Edge.of("Returns the mean number of entries of towers.", () -> {
            Castlequorum game = Scene.ofTowers(7);
            Check.due("of an empty row", game.meanEntries(0), 0.0);
            game.lease(0, 0, 0, 20);
            Scene.orderTo(game, 0, 0b0000001);
            Check.due("one entry of one tower, that hangs", game.meanEntries(0), 1.0 / 7.0);
            game.spread(0);
            Check.due("one of each", game.meanEntries(0), 1.0);
            Scene.upOnly(game, 0, 0);
            Check.due("of towers that have fallen", game.meanEntries(0), 1.0);
            for (int tower = 0; tower < 7; tower++) {
                game.burn(0, tower);
            }
            Check.due("of towers that have burnt", game.meanEntries(0), 0.0);
            Check.due("of a full row", Scene.filled(60).meanEntries(0), 60.0);
        });
        Edge.of(CASTLE, () -> Edge.castles(Scene::unlike, (game, castle) -> game.meanEntries(castle), 1.0, 3.0));
        Edge.of("Returns the sum divided by the number of towers, both converted to double.", () -> {
            for (int towers = 1; towers <= 7; towers++) {
                Castlequorum game = Scene.ofTowers(towers);
                game.lease(0, 0, 0, 20);
                int sum = 0;
                for (int at = 1; at <= towers; at++) {
                    Scene.orderTo(game, 0, (1 << at) - 1);
                    sum += at;
                    Check.due(sum + " of " + towers, game.meanEntries(0), (double) sum / (double) towers);
                }
            }
        });
        Edge.of(NO_CASTLE, () -> noSuchCastle((game, castle) -> game.meanEntries(castle)));
    }

    private static void isSound() {
        Edge.in("Promise 40");
        Edge.of("Tells whether no gate is open for two lords;", () -> {
            Castlequorum game = new Castlequorum();
            Check.due("at first", game.isSound(), true);
            for (int lord = 0; lord < 4; lord++) {
                for (int gate = 0; gate < 3; gate++) {
                    game.lease(lord, lord % 2, gate, 20);
                }
                Check.due("one lord at all gates", game.isSound(), true);
                game.wait(19);
                Check.due("the last tick of that", game.isSound(), true);
                game.wait(1);
                game.lease(3 - lord, lord % 2, 0, 1);
                Check.due("two leases, of which one has ended", game.isSound(), true);
                game.wait(20);
            }
            for (int gate = 0; gate < 6; gate++) {
                for (int lord = 1; lord < 4; lord++) {
                    Inside.leaseAt(game, gate / 3, gate % 3, lord - 1, game.time());
                    Inside.leaseAt(game, gate / 3, gate % 3, lord, game.time() + 1);
                    Check.due("one lease at its tick, another one ahead of it", game.isSound(), true);
                    Inside.leaseAt(game, gate / 3, gate % 3, lord - 1, game.time() + 1);
                    Check.due("both ahead of it", game.isSound(), false);
                    game.wait(1);
                    Check.due("a tick later", game.isSound(), true);
                }
            }
        });
        Edge.of("no gold, held gold or purse is below 0, and held gold at most gold;", () -> {
            Castlequorum game = Scene.ofTowers(3, 0);
            Check.due("no gold at all", game.isSound(), true);
            Castlequorum held = new Castlequorum();
            held.truce(1, 100);
            held.prepare(0, 1, 0);
            Check.due("all gold is held", held.isSound(), true);
            Inside.amountAt(held, 1, 0, 101);
            Check.due("more is held than there is", held.isSound(), false);
            Inside.amountAt(held, 1, 0, 0);
            Check.due("none is held", held.isSound(), true);
            Inside.amountAt(held, 1, 0, -1);
            Check.due("held gold below 0", held.isSound(), false);
            Castlequorum gold = Scene.leased();
            gold.order(0, 0, 0, false, 50);
            gold.order(0, 0, 0, true, 50);
            Inside.amountAt(gold, 0, 1, -50);
            Check.due("gold of 0", gold.isSound(), true);
            Inside.amountAt(gold, 0, 1, -51);
            Check.due("gold below 0", gold.isSound(), false);
            for (int lord = 0; lord < 4; lord++) {
                Castlequorum purse = new Castlequorum();
                purse.lease(lord, 0, 0, 20);
                purse.order(lord, 0, 0, false, 100);
                Check.due("all gold in a purse", purse.isSound(), true);
                Inside.amountAt(purse, 0, 0, -1);
                Check.due("a purse below 0", purse.isSound(), false);
            }
        });
        Edge.of("and the gold and the purses of each castle sum to the gold as it was built, plus what truces that are settled"
            + " there as done moved into it, less what they moved out.", () -> {
                for (int from = 0; from < 2; from++) {
                    Castlequorum game = new Castlequorum();
                    for (int truce = 0; truce < 8; truce++) {
                        game.truce(from, 12);
                        game.prepare(truce, 0, 0);
                        game.prepare(truce, 1, 0);
                        game.decide(truce, truce % 4 != 1);
                        game.settle(truce % 2);
                        Check.due("settled at one", game.isSound(), true);
                        game.settle(1 - truce % 2);
                        Check.due("settled at both", game.isSound(), true);
                    }
                    Check.due("six of eight moved", game.gold(from, false), 100 - 72);
                    game.build(from, 3, 5);
                    Check.due("when one is built anew", game.isSound(), true);
                    game.build(1 - from, 3, 9999);
                    Check.due("when both are", game.isSound(), true);
                }
                Castlequorum game = Scene.oneNear();
                game.order(0, 0, 0, false, 60);
                game.order(0, 0, 0, false, 60);
                Check.due("where orders hang", game.isSound(), true);
                game.spread(0);
                Check.due("where they count, and one does nothing", game.isSound(), true);
            });
        Edge.of("Returns true if so.", () -> {
            Check.due("at first", new Castlequorum().isSound(), true);
            Check.due("when both castles have come some way", Scene.unlike().isSound(), true);
            Check.due("with full rows", Scene.filled(60).isSound(), true);
        });
    }
}
