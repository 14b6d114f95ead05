/** Promises 16 to 26: order, spread, strike, entries, counting, entryOf, amountOf, isCommitted, has, gold, purse. */
public final class EntriesTest {
    private static final Class<IndexOutOfBoundsException> INDEX = IndexOutOfBoundsException.class;
    private static final Class<IllegalArgumentException> ARGUMENT = IllegalArgumentException.class;
    private static final Class<UnsupportedOperationException> CANNOT = UnsupportedOperationException.class;
    private static final Class<IllegalStateException> FULL = IllegalStateException.class;

    public static void main(String[] arguments) {
        orders();
        orderBounds();
        orderRefused();
        orderNearNobody();
        orderFull();
        hangingOrders();
        hangingOrdersThatCannotBe();
        spreading();
        spreadingFromDown();
        spreadingCommits();
        striking();
        strikingTwice();
        strikingCommitted();
        reading();
        committedStays();
        Check.end();
    }

    private static void orders() {
        Castlequorum game = new Castlequorum();
        game.lease(1, 0, 2, 20);
        Check.due("order out", game.order(1, 0, 2, false, 60), 0);
        Check.due("gold", game.gold(0, false), 40);
        Check.due("purse", game.purse(1, 0), 60);
        Check.due("purse of another lord", game.purse(0, 0), 0);
        Check.due("purse at the other castle", game.purse(1, 1), 0);
        Check.due("order in", game.order(1, 0, 2, true, 60), 1);
        Check.due("gold", game.gold(0, false), 100);
        Check.due("purse", game.purse(1, 0), 0);
        Check.due("order of all", game.order(1, 0, 2, false, 100), 2);
        Check.due("gold", game.gold(0, false), 0);
        Check.due("the other castle's gold", game.gold(1, false), 100);
        Check.due("a lease needs no other gate", game.entries(0), 3);
    }

    private static void orderBounds() {
        Castlequorum game = new Castlequorum();
        game.build(0, 3, 2000);
        game.lease(0, 0, 0, 20);
        Check.due("order of 1", game.order(0, 0, 0, false, 1), 0);
        Check.due("order of 999", game.order(0, 0, 0, false, 999), 1);
        Check.refused("order of 0", game, ARGUMENT, () -> game.order(0, 0, 0, false, 0));
        Check.refused("order of 1000", game, ARGUMENT, () -> game.order(0, 0, 0, false, 1000));
        Check.refused("order of -1", game, ARGUMENT, () -> game.order(0, 0, 0, true, -1));
        Check.refused("order of MIN", game, ARGUMENT, () -> game.order(0, 0, 0, true, Integer.MIN_VALUE));
        Check.refused("order of lord 4", game, INDEX, () -> game.order(4, 0, 0, false, 1));
        Check.refused("order of lord -1", game, INDEX, () -> game.order(-1, 0, 0, false, 1));
        Check.refused("order at castle 2", game, INDEX, () -> game.order(0, 2, 0, false, 1));
        Check.refused("order at castle -1", game, INDEX, () -> game.order(0, -1, 0, false, 1));
        Check.refused("order at gate 3", game, INDEX, () -> game.order(0, 0, 3, false, 1));
        Check.refused("order at gate -1", game, INDEX, () -> game.order(0, 0, -1, false, 1));
        Check.refused("order of 0 at gate 3", game, INDEX, () -> game.order(0, 0, 3, false, 0));
        Check.refused("order of 0 at a closed gate", game, ARGUMENT, () -> game.order(0, 0, 1, false, 0));
    }

    private static void orderRefused() {
        Castlequorum game = new Castlequorum();
        Check.refused("order at a closed gate", game, CANNOT, () -> game.order(0, 0, 0, false, 1));
        game.lease(0, 0, 0, 10);
        Check.refused("order at another gate", game, CANNOT, () -> game.order(0, 0, 1, false, 1));
        Check.refused("order at the other castle", game, CANNOT, () -> game.order(0, 1, 0, false, 1));
        Check.refused("order of another lord", game, CANNOT, () -> game.order(1, 0, 0, false, 1));
        Check.refused("order out of too much", game, CANNOT, () -> game.order(0, 0, 0, false, 101));
        Check.refused("order in from an empty purse", game, CANNOT, () -> game.order(0, 0, 0, true, 1));
        game.order(0, 0, 0, false, 30);
        Check.refused("order in of too much", game, CANNOT, () -> game.order(0, 0, 0, true, 31));
        game.truce(0, 50);
        game.prepare(0, 0, 3);
        Check.refused("order out of held gold", game, CANNOT, () -> game.order(0, 0, 0, false, 21));
        Check.due("order out of the rest", game.order(0, 0, 0, false, 20), 2);
        game.wait(9);
        Check.due("order a tick before the lease ends", game.order(0, 0, 0, true, 1), 3);
        game.wait(1);
        Check.refused("order when the lease has ended", game, CANNOT, () -> game.order(0, 0, 0, true, 1));
    }

    private static void orderNearNobody() {
        Castlequorum game = new Castlequorum();
        game.lease(0, 0, 0, 10);
        game.fall(0, 0);
        game.cut(0, 1, 0, true);
        game.cut(0, 2, 0, true);
        Check.refused("order with no tower near", game, CANNOT, () -> game.order(0, 0, 0, false, 1));
        game.rise(0, 0);
        Check.due("order with a waiting tower near", game.order(0, 0, 0, false, 1), 0);
        Check.due("it is at that tower", game.has(0, 0, 0), true);
        Check.due("and at no other", game.has(0, 1, 0), false);
    }

    private static void orderFull() {
        Castlequorum game = new Castlequorum();
        game.lease(0, 0, 0, 20);
        for (int entry = 0; entry < 60; entry++) {
            Check.due("order", game.order(0, 0, 0, entry % 2 == 1, 1), entry);
        }
        Check.due("entries", game.entries(0), 60);
        Check.refused("order into a full row", game, FULL, () -> game.order(0, 0, 0, false, 1));
        Check.refused("order of too much into it", game, CANNOT, () -> game.order(0, 0, 0, false, 101));
        Check.refused("order of 0 into it", game, ARGUMENT, () -> game.order(0, 0, 0, false, 0));
        Check.refused("order at a closed gate into it", game, CANNOT, () -> game.order(1, 0, 0, false, 1));
        game.lease(0, 1, 0, 20);
        Check.due("the other castle has room", game.order(0, 1, 0, false, 1), 0);
        game.build(0, 3, 100);
        game.lease(0, 0, 0, 20);
        Check.due("room after build", game.order(0, 0, 0, false, 1), 0);
    }

    /** Lord 0 keeps one tower of three near, so that what he tells hangs. */
    private static Castlequorum oneNear() {
        Castlequorum game = new Castlequorum();
        game.lease(0, 0, 0, 20);
        game.cut(0, 1, 0, true);
        game.cut(0, 2, 0, true);
        return game;
    }

    private static void hangingOrders() {
        Castlequorum game = oneNear();
        Check.due("an order to 1 of 3", game.order(0, 0, 0, false, 30), 0);
        Check.due("committed", game.isCommitted(0, 0), false);
        Check.due("counting", game.counting(0), 0);
        Check.due("gold", game.gold(0, false), 100);
        game.cut(0, 1, 0, false);
        Check.due("an order to 2 of 3", game.order(0, 0, 0, false, 20), 1);
        Check.due("committed", game.isCommitted(0, 1), true);
        Check.due("it hangs behind the first", game.counting(0), 0);
        Check.due("gold", game.gold(0, false), 100);
        Check.due("purse", game.purse(0, 0), 0);
        Check.due("spread", game.spread(0), 3);
        Check.due("counting", game.counting(0), 2);
        Check.due("gold", game.gold(0, false), 50);
        Check.due("purse", game.purse(0, 0), 50);
    }

    private static void hangingOrdersThatCannotBe() {
        Castlequorum game = oneNear();
        game.order(0, 0, 0, false, 70);
        game.order(0, 0, 0, false, 40);
        game.order(0, 0, 0, false, 30);
        Check.due("counting", game.counting(0), 0);
        game.spread(0);
        Check.due("counting after spread", game.counting(0), 3);
        Check.due("what is not there any more is not taken", game.gold(0, false), 0);
        Check.due("purse", game.purse(0, 0), 100);
        Check.due("amount of the one that did nothing", game.amountOf(0, 1), 40);
        game.order(0, 0, 0, true, 60);
        game.order(0, 0, 0, true, 50);
        game.order(0, 0, 0, true, 40);
        game.spread(0);
        Check.due("what is not in the purse is not put in", game.gold(0, false), 100);
        Check.due("purse", game.purse(0, 0), 0);
        Check.due("sound", game.isSound(), true);
    }

    private static void spreading() {
        Castlequorum game = oneNear();
        Check.due("spread of nothing", game.spread(0), 0);
        game.order(0, 0, 0, false, 10);
        game.order(0, 0, 0, false, 10);
        game.fall(0, 2);
        Check.due("spread to one other tower", game.spread(0), 2);
        Check.due("a tower that is down gets none", game.has(0, 2, 0), false);
        Check.due("committed by 2 of 3", game.isCommitted(0, 1), true);
        Check.due("spread again", game.spread(0), 0);
        game.rise(0, 2);
        Check.due("spread to the risen", game.spread(0), 2);
        Check.due("it has both", game.has(0, 2, 1), true);
        Check.due("the other castle", game.spread(1), 0);
        Check.refused("spread(2)", game, INDEX, () -> game.spread(2));
        Check.refused("spread(-1)", game, INDEX, () -> game.spread(-1));
    }

    private static void spreadingFromDown() {
        Castlequorum game = oneNear();
        game.order(0, 0, 0, false, 10);
        game.fall(0, 0);
        Check.due("spread of what only a fallen tower has", game.spread(0), 0);
        Check.due("it hangs", game.counting(0), 0);
        game.fall(0, 1);
        game.fall(0, 2);
        Check.due("spread with all down", game.spread(0), 0);
        game.rise(0, 0);
        Check.due("spread with one up", game.spread(0), 0);
        game.rise(0, 2);
        Check.due("spread with two up", game.spread(0), 1);
        Check.due("it counts", game.counting(0), 1);
    }

    private static void spreadingCommits() {
        Castlequorum game = new Castlequorum();
        game.build(0, 5, 100);
        game.lease(0, 0, 0, 20);
        for (int tower = 2; tower < 5; tower++) {
            game.cut(0, tower, 0, true);
        }
        game.order(0, 0, 0, false, 10);
        game.fall(0, 1);
        game.fall(0, 3);
        game.fall(0, 4);
        Check.due("spread to one more", game.spread(0), 1);
        Check.due("the towers that are down have it still", game.isCommitted(0, 0), true);
        game.build(0, 4, 100);
        game.lease(0, 0, 0, 20);
        game.cut(0, 2, 0, true);
        game.cut(0, 3, 0, true);
        game.order(0, 0, 0, false, 10);
        Check.due("2 of 4 is no quorum", game.isCommitted(0, 0), false);
        Check.due("spread to the two others", game.spread(0), 2);
        Check.due("4 of 4 is one", game.isCommitted(0, 0), true);
    }

    private static void striking() {
        Castlequorum game = oneNear();
        game.order(0, 0, 0, false, 10);
        game.order(0, 0, 0, false, 20);
        Check.due("strike of what a tower has", game.strike(0), 0);
        game.fall(0, 0);
        Check.due("strike of what a fallen tower has", game.strike(0), 0);
        game.burn(0, 0);
        Check.due("strike of what none has", game.strike(0), 2);
        Check.due("letter", game.entryOf(0, 0), '-');
        Check.due("amount", game.amountOf(0, 1), 20);
        Check.due("committed", game.isCommitted(0, 0), false);
        Check.due("they count", game.counting(0), 2);
        Check.due("they do nothing", game.gold(0, false), 100);
        Check.due("purse", game.purse(0, 0), 0);
        Check.due("strike again", game.strike(0), 0);
        Check.due("entries", game.entries(0), 2);
        game.cut(0, 1, 0, false);
        game.cut(0, 2, 0, false);
        Check.due("an order behind them", game.order(0, 0, 0, false, 5), 2);
        Check.due("it counts", game.gold(0, false), 95);
        game.burn(0, 1);
        game.burn(0, 2);
        Check.due("strike of what counts", game.strike(0), 0);
        Check.due("its letter", game.entryOf(0, 2), 'o');
        Check.refused("strike(2)", game, INDEX, () -> game.strike(2));
        Check.refused("strike(-1)", game, INDEX, () -> game.strike(-1));
    }

    private static void strikingTwice() {
        Castlequorum game = oneNear();
        game.order(0, 0, 0, false, 10);
        game.cut(0, 0, 0, true);
        game.cut(0, 1, 0, false);
        game.order(0, 0, 0, false, 20);
        game.burn(0, 1);
        Check.due("strike of the second", game.strike(0), 1);
        Check.due("the first", game.entryOf(0, 0), 'o');
        Check.due("the second", game.entryOf(0, 1), '-');
        Check.due("both hang", game.counting(0), 0);
        Check.due("what is struck is not struck again", game.strike(0), 0);
        game.burn(0, 0);
        Check.due("strike of the first", game.strike(0), 1);
        Check.due("both count", game.counting(0), 2);
    }

    private static void strikingCommitted() {
        Castlequorum game = oneNear();
        game.order(0, 0, 0, false, 10);
        game.cut(0, 0, 0, true);
        game.cut(0, 1, 0, false);
        game.cut(0, 2, 0, false);
        game.order(0, 0, 0, false, 20);
        Check.due("committed behind what hangs", game.isCommitted(0, 1), true);
        for (int tower = 0; tower < 3; tower++) {
            game.burn(0, tower);
        }
        Check.due("both hang when they are struck", game.strike(0), 2);
        Check.due("a struck one that was committed", game.entryOf(0, 1), '-');
        Check.due("committed stays", game.isCommitted(0, 1), true);
        Check.due("it does nothing", game.gold(0, false), 100);
        Check.due("counting", game.counting(0), 2);
    }

    private static void reading() {
        Castlequorum game = new Castlequorum();
        game.build(1, 5, 200);
        game.lease(2, 1, 0, 20);
        game.order(2, 1, 0, false, 90);
        game.order(2, 1, 0, true, 15);
        game.truce(1, 33);
        game.prepare(0, 1, 2);
        game.decide(0, false);
        game.settle(1);
        game.scout(2, 1);
        game.raid(0, 0);
        game.truce(1, 7);
        game.prepare(1, 1, 2);
        game.prepare(1, 0, 2);
        game.decide(1, true);
        game.settle(1);
        game.settle(0);
        String letters = "";
        String amounts = "";
        for (int entry = 0; entry < game.entries(1); entry++) {
            letters += game.entryOf(1, entry);
            amounts += " " + game.amountOf(1, entry);
            Check.due("committed", game.isCommitted(1, entry), true);
            Check.due("the last tower has it", game.has(1, 4, entry), true);
        }
        Check.due("the letters", letters, "oiparpd");
        Check.due("the amounts", amounts, " 90 15 33 33 62 7 7");
        Check.due("the letters at the other castle", "" + game.entryOf(0, 0) + game.entryOf(0, 1), "pd");
        Check.due("its amounts", game.amountOf(0, 0) + game.amountOf(0, 1), 14);
        Check.due("gold", game.gold(1, false), 200 - 75 - 62 - 7);
        Check.due("the other castle's gold", game.gold(0, false), 107);
        Check.due("purse", game.purse(2, 1), 75 + 62);
        wrongNumbers(game);
    }

    private static void wrongNumbers(Castlequorum game) {
        for (int[] row : new int[][] {{2, 0}, {-1, 0}, {1, 7}, {1, -1}, {0, 2}, {1, Integer.MAX_VALUE}}) {
            String at = "(" + row[0] + ", " + row[1] + ")";
            Check.refused("entryOf" + at, game, INDEX, () -> game.entryOf(row[0], row[1]));
            Check.refused("amountOf" + at, game, INDEX, () -> game.amountOf(row[0], row[1]));
            Check.refused("isCommitted" + at, game, INDEX, () -> game.isCommitted(row[0], row[1]));
            Check.refused("has" + at, game, INDEX, () -> game.has(row[0], 0, row[1]));
        }
        Check.refused("has of tower 5 of 5", game, INDEX, () -> game.has(1, 5, 0));
        Check.refused("has of tower 3 of 3", game, INDEX, () -> game.has(0, 3, 0));
        Check.refused("has of tower -1", game, INDEX, () -> game.has(1, -1, 0));
        for (int castle : new int[] {-1, 2, Integer.MIN_VALUE}) {
            Check.refused("entries of " + castle, game, INDEX, () -> game.entries(castle));
            Check.refused("counting of " + castle, game, INDEX, () -> game.counting(castle));
            Check.refused("gold of " + castle, game, INDEX, () -> game.gold(castle, false));
            Check.refused("held gold of " + castle, game, INDEX, () -> game.gold(castle, true));
            Check.refused("purse at " + castle, game, INDEX, () -> game.purse(0, castle));
        }
        Check.refused("purse of lord 4", game, INDEX, () -> game.purse(4, 0));
        Check.refused("purse of lord -1", game, INDEX, () -> game.purse(-1, 0));
    }

    private static void committedStays() {
        Castlequorum game = new Castlequorum();
        game.lease(0, 0, 0, 20);
        game.order(0, 0, 0, false, 10);
        for (int tower = 0; tower < 3; tower++) {
            game.burn(0, tower);
        }
        Check.due("committed", game.isCommitted(0, 0), true);
        Check.due("counting", game.counting(0), 1);
        Check.due("gold", game.gold(0, false), 90);
        game.build(0, 3, 100);
        game.lease(0, 0, 0, 20);
        game.cut(0, 0, 0, true);
        game.cut(0, 1, 0, true);
        game.order(0, 0, 0, false, 10);
        Check.due("an entry after build is new", game.isCommitted(0, 0), false);
        Check.due("it is at no other tower", game.has(0, 0, 0), false);
    }
}
