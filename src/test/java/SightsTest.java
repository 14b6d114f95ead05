/** Promises 27 to 30: scout, read, raid, won. */
public final class SightsTest {
    private static final Class<IndexOutOfBoundsException> INDEX = IndexOutOfBoundsException.class;
    private static final Class<UnsupportedOperationException> CANNOT = UnsupportedOperationException.class;
    private static final Class<IllegalStateException> FULL = IllegalStateException.class;

    public static void main(String[] arguments) {
        scouting();
        scoutingFull();
        reading();
        raidWins();
        raidOfNothing();
        raidTooOld();
        raidGate();
        raidNoQuorum();
        raidSightWrong();
        raidHanging();
        raidFull();
        raidLeavesHeldGold();
        winning();
        Check.end();
    }

    private static void scouting() {
        Castlequorum game = new Castlequorum();
        Check.due("scout", game.scout(3, 1), 0);
        game.cut(1, 0, 3, true);
        Check.due("scout with 2 of 3 near", game.scout(3, 1), 1);
        game.cut(1, 1, 3, true);
        Check.refused("scout with 1 of 3 near", game, CANNOT, () -> game.scout(3, 1));
        Check.due("scout of another lord", game.scout(0, 1), 2);
        game.build(0, 4, 100);
        game.fall(0, 0);
        game.fall(0, 1);
        Check.refused("scout with 2 of 4 near", game, CANNOT, () -> game.scout(0, 0));
        game.rise(0, 1);
        Check.due("a waiting tower is near", game.scout(0, 0), 3);
        Check.refused("scout of lord 4", game, INDEX, () -> game.scout(4, 0));
        Check.refused("scout of lord -1", game, INDEX, () -> game.scout(-1, 0));
        Check.refused("scout of castle 2", game, INDEX, () -> game.scout(0, 2));
        Check.refused("scout of castle -1", game, INDEX, () -> game.scout(0, -1));
    }

    private static void scoutingFull() {
        Castlequorum game = new Castlequorum();
        for (int sight = 0; sight < 20; sight++) {
            Check.due("scout", game.scout(sight % 4, sight % 2), sight);
        }
        Check.refused("scout 20", game, FULL, () -> game.scout(0, 0));
        game.wait(100);
        Check.refused("scout 20 when the others are too old", game, FULL, () -> game.scout(0, 0));
        game.fall(0, 0);
        game.fall(0, 1);
        Check.refused("scout 20 without a quorum", game, CANNOT, () -> game.scout(0, 0));
        Check.refused("scout 20 of castle 2", game, INDEX, () -> game.scout(0, 2));
    }

    private static void reading() {
        Castlequorum game = new Castlequorum();
        game.wait(5);
        game.lease(0, 0, 0, 20);
        game.order(0, 0, 0, false, 25);
        game.truce(0, 10);
        game.prepare(0, 0, 0);
        game.cut(0, 0, 0, true);
        game.cut(0, 1, 0, true);
        game.order(0, 0, 0, false, 5);
        Check.due("scout", game.scout(1, 0), 0);
        Check.due("read of the count", game.read(0, true), 2);
        Check.due("read of the gold", game.read(0, false), 65);
        game.spread(0);
        Check.due("it is what was seen", game.read(0, true), 2);
        Check.due("it is what was seen", game.read(0, false), 65);
        game.wait(9);
        Check.due("9 ticks later", game.read(0, false), 65);
        game.wait(1);
        Check.refused("10 ticks later", game, CANNOT, () -> game.read(0, false));
        Check.refused("10 ticks later, the count", game, CANNOT, () -> game.read(0, true));
        Check.refused("read(1)", game, INDEX, () -> game.read(1, false));
        Check.refused("read(-1)", game, INDEX, () -> game.read(-1, false));
        Check.refused("read(20)", game, INDEX, () -> game.read(20, true));
    }

    private static void raidWins() {
        Castlequorum game = new Castlequorum();
        game.build(1, 3, 75);
        game.lease(2, 1, 1, 20);
        game.scout(2, 1);
        game.cut(1, 2, 2, true);
        Check.due("raid", game.raid(0, 1), 'w');
        Check.due("the entry", game.entryOf(1, 0), 'r');
        Check.due("half of the gold, cut", game.amountOf(1, 0), 37);
        Check.due("gold", game.gold(1, false), 38);
        Check.due("purse", game.purse(2, 1), 37);
        Check.due("it is written to what is near", game.has(1, 0, 0), true);
        Check.due("and to no other", game.has(1, 2, 0), false);
        Check.due("it counts", game.counting(1), 1);
        Check.due("won", game.won(2), 1);
        Check.due("raid again by the same sight", game.raid(0, 1), 's');
        Check.due("won", game.won(2), 1);
        Check.due("entries", game.entries(1), 1);
        Check.refused("raid by sight 1", game, INDEX, () -> game.raid(1, 1));
        Check.refused("raid by sight -1", game, INDEX, () -> game.raid(-1, 1));
        Check.refused("raid at gate 3", game, INDEX, () -> game.raid(0, 3));
        Check.refused("raid at gate -1", game, INDEX, () -> game.raid(0, -1));
    }

    private static void raidOfNothing() {
        Castlequorum game = new Castlequorum();
        for (int gold = 0; gold < 3; gold++) {
            game.build(0, 3, gold);
            game.lease(0, 0, 0, 20);
            game.scout(0, 0);
            Check.due("raid for " + gold, game.raid(gold, 0), 'w');
            Check.due("amount", game.amountOf(0, 0), gold / 2);
            Check.due("purse", game.purse(0, 0), gold / 2);
        }
        Check.due("won", game.won(0), 3);
    }

    private static void raidTooOld() {
        Castlequorum game = new Castlequorum();
        game.lease(0, 0, 0, 20);
        game.scout(0, 0);
        game.scout(0, 0);
        game.wait(9);
        Check.due("raid 9 ticks later", game.raid(0, 0), 'w');
        game.wait(1);
        Check.due("raid 10 ticks later", game.raid(1, 0), 'o');
        Check.due("too old comes ahead of the gate", game.raid(1, 1), 'o');
        game.fall(0, 0);
        game.fall(0, 1);
        Check.due("too old comes ahead of the quorum", game.raid(1, 0), 'o');
        Check.due("won", game.won(0), 1);
    }

    private static void raidGate() {
        Castlequorum game = new Castlequorum();
        game.lease(1, 0, 0, 5);
        game.lease(0, 0, 1, 5);
        game.scout(0, 0);
        Check.due("raid to a gate that is open for another", game.raid(0, 0), 'g');
        Check.due("raid to a closed gate", game.raid(0, 2), 'g');
        game.fall(0, 0);
        game.fall(0, 1);
        Check.due("the gate comes ahead of the quorum", game.raid(0, 0), 'g');
        game.wait(5);
        Check.due("raid when the lease has ended", game.raid(0, 1), 'g');
        Check.due("entries", game.entries(0), 0);
        Check.due("won", game.won(0), 0);
    }

    private static void raidNoQuorum() {
        Castlequorum game = new Castlequorum();
        game.lease(0, 0, 0, 20);
        game.scout(0, 0);
        game.cut(0, 0, 0, true);
        game.cut(0, 1, 0, true);
        Check.due("raid with 1 of 3 near", game.raid(0, 0), 'q');
        game.order(0, 0, 0, false, 1);
        Check.due("the quorum comes ahead of the sight", game.raid(0, 0), 'q');
        game.spread(0);
        Check.due("raid with 1 of 3 near", game.raid(0, 0), 'q');
        game.cut(0, 0, 0, false);
        Check.due("raid with 2 of 3 near", game.raid(0, 0), 's');
        game.scout(0, 0);
        Check.due("raid by a new sight", game.raid(1, 0), 'w');
    }

    private static void raidSightWrong() {
        Castlequorum game = new Castlequorum();
        game.lease(0, 0, 0, 20);
        game.lease(1, 0, 1, 20);
        game.scout(0, 0);
        game.order(1, 0, 1, false, 10);
        Check.due("raid when more count", game.raid(0, 0), 's');
        Check.due("gold", game.gold(0, false), 90);
        game.scout(0, 0);
        game.order(1, 0, 1, true, 10);
        game.order(1, 0, 1, false, 10);
        Check.due("raid when more count and gold is the same", game.raid(1, 0), 's');
    }

    private static void raidHanging() {
        Castlequorum game = new Castlequorum();
        game.lease(0, 0, 0, 20);
        game.lease(1, 0, 1, 20);
        game.cut(0, 0, 1, true);
        game.cut(0, 1, 1, true);
        game.scout(0, 0);
        game.order(1, 0, 1, false, 10);
        Check.due("raid when an entry hangs", game.raid(0, 0), 's');
        game.scout(0, 0);
        Check.due("raid when it was seen to hang", game.raid(1, 0), 's');
        game.burn(0, 2);
        game.strike(0);
        Check.due("raid when it is struck", game.raid(0, 0), 's');
        game.scout(0, 0);
        Check.due("raid by a new sight", game.raid(2, 0), 'w');
        Check.due("gold", game.gold(0, false), 50);
    }

    private static void raidFull() {
        Castlequorum game = new Castlequorum();
        game.lease(0, 0, 0, 20);
        game.scout(0, 0);
        for (int entry = 0; entry < 59; entry++) {
            game.order(0, 0, 0, entry % 2 == 1, 1);
        }
        game.scout(0, 0);
        Check.due("raid as the 60th", game.raid(1, 0), 'w');
        Check.due("entries", game.entries(0), 60);
        game.scout(0, 0);
        game.scout(0, 1);
        Check.refused("raid into a full row", game, FULL, () -> game.raid(2, 0));
        Check.refused("raid to a closed gate, into it", game, FULL, () -> game.raid(2, 1));
        Check.refused("raid by a wrong sight, into it", game, FULL, () -> game.raid(0, 0));
        Check.due("raid at the other castle", game.raid(3, 0), 'g');
        game.wait(20);
        Check.refused("raid by an old sight, into it", game, FULL, () -> game.raid(2, 0));
        Check.refused("raid at gate 3, into it", game, INDEX, () -> game.raid(2, 3));
        Check.refused("raid by sight 4", game, INDEX, () -> game.raid(4, 0));
    }

    private static void raidLeavesHeldGold() {
        Castlequorum game = new Castlequorum();
        game.truce(0, 90);
        game.prepare(0, 0, 1);
        game.lease(0, 0, 0, 20);
        game.scout(0, 0);
        Check.due("raid", game.raid(0, 0), 'w');
        Check.due("half of what is not held", game.amountOf(0, 1), 5);
        Check.due("held gold", game.gold(0, true), 90);
        Check.due("gold", game.gold(0, false), 95);
    }

    private static void winning() {
        Castlequorum game = new Castlequorum();
        for (int castle = 0; castle < 2; castle++) {
            game.lease(3, castle, 0, 20);
            game.scout(3, castle);
            game.raid(castle, 0);
        }
        Check.due("won at both castles", game.won(3), 2);
        Check.due("won by another", game.won(0), 0);
        game.wait(100);
        Check.due("won later", game.won(3), 2);
        Check.refused("won(4)", game, INDEX, () -> game.won(4));
        Check.refused("won(-1)", game, INDEX, () -> game.won(-1));
    }
}
