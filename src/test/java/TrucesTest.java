/** Promises 31 to 35: truce, prepare, decide, settle, truceOf. */
public final class TrucesTest {
    private static final Class<IndexOutOfBoundsException> INDEX = IndexOutOfBoundsException.class;
    private static final Class<IllegalArgumentException> ARGUMENT = IllegalArgumentException.class;
    private static final Class<UnsupportedOperationException> CANNOT = UnsupportedOperationException.class;
    private static final Class<IllegalStateException> FULL = IllegalStateException.class;

    public static void main(String[] arguments) {
        beginning();
        preparing();
        preparingNeedsQuorum();
        preparingNeedsGold();
        preparingBesidesAnother();
        preparingWhereOneHangs();
        preparingFull();
        deciding();
        decidingAborted();
        settlingDone();
        settlingAborted();
        settlingNeedsQuorum();
        settlingWhereOneHangs();
        settlingFull();
        states();
        Check.end();
    }

    private static void beginning() {
        Castlequorum game = new Castlequorum();
        Check.refused("truce of 0", game, ARGUMENT, () -> game.truce(0, 0));
        Check.refused("truce of 1000", game, ARGUMENT, () -> game.truce(0, 1000));
        Check.refused("truce of MIN", game, ARGUMENT, () -> game.truce(0, Integer.MIN_VALUE));
        Check.refused("truce from 2", game, INDEX, () -> game.truce(2, 1));
        Check.refused("truce from -1", game, INDEX, () -> game.truce(-1, 1));
        Check.refused("truce of 0 from 2", game, INDEX, () -> game.truce(2, 0));
        for (int truce = 0; truce < 8; truce++) {
            Check.due("truce", game.truce(truce % 2, truce % 2 == 0 ? 1 : 999), truce);
            Check.due("truceOf", game.truceOf(truce, 0), '-');
        }
        Check.refused("truce 8", game, FULL, () -> game.truce(0, 1));
        Check.refused("truce 8 of 0", game, ARGUMENT, () -> game.truce(0, 0));
        game.decide(0, false);
        Check.refused("truce 8 when one is decided", game, FULL, () -> game.truce(0, 1));
        game.build(0, 3, 100);
        Check.refused("truce 8 after build", game, FULL, () -> game.truce(0, 1));
    }

    private static void preparing() {
        Castlequorum game = new Castlequorum();
        game.truce(1, 40);
        game.cut(1, 2, 3, true);
        Check.due("prepare at the castle from which", game.prepare(0, 1, 3), 0);
        Check.due("letter", game.entryOf(1, 0), 'p');
        Check.due("amount", game.amountOf(1, 0), 40);
        Check.due("it is written to what is near", game.has(1, 1, 0), true);
        Check.due("and to no other", game.has(1, 2, 0), false);
        Check.due("gold", game.gold(1, false), 100);
        Check.due("held gold", game.gold(1, true), 40);
        Check.due("prepare at the other one", game.prepare(0, 0, 0), 0);
        Check.due("gold there", game.gold(0, false), 100);
        Check.due("held gold there", game.gold(0, true), 0);
        Check.due("amount there", game.amountOf(0, 0), 40);
        Check.refused("prepare again", game, CANNOT, () -> game.prepare(0, 1, 3));
        Check.refused("prepare of truce 1", game, INDEX, () -> game.prepare(1, 0, 0));
        Check.refused("prepare of truce -1", game, INDEX, () -> game.prepare(-1, 0, 0));
        Check.refused("prepare at castle 2", game, INDEX, () -> game.prepare(0, 2, 0));
        Check.refused("prepare at castle -1", game, INDEX, () -> game.prepare(0, -1, 0));
        Check.refused("prepare by lord 4", game, INDEX, () -> game.prepare(0, 0, 4));
        Check.refused("prepare by lord -1", game, INDEX, () -> game.prepare(0, 0, -1));
    }

    private static void preparingNeedsQuorum() {
        Castlequorum game = new Castlequorum();
        game.build(0, 4, 100);
        game.truce(1, 40);
        game.cut(0, 0, 1, true);
        game.cut(0, 1, 1, true);
        Check.refused("prepare with 2 of 4 near", game, CANNOT, () -> game.prepare(0, 0, 1));
        Check.due("prepare by another lord", game.prepare(0, 0, 0), 0);
        game.fall(1, 0);
        game.fall(1, 1);
        Check.refused("prepare with 1 of 3 up", game, CANNOT, () -> game.prepare(0, 1, 0));
        game.rise(1, 0);
        Check.due("prepare with 2 of 3 up, one waiting", game.prepare(0, 1, 0), 0);
        Check.due("the waiting one has it", game.has(1, 0, 0), true);
    }

    private static void preparingNeedsGold() {
        Castlequorum game = new Castlequorum();
        game.truce(0, 101);
        game.truce(0, 100);
        Check.refused("prepare of too much", game, CANNOT, () -> game.prepare(0, 0, 0));
        Check.due("prepare of too much at the other castle", game.prepare(0, 1, 0), 0);
        Check.due("prepare of all", game.prepare(1, 0, 0), 0);
        Check.due("held gold", game.gold(0, true), 100);
        game.decide(1, false);
        game.settle(0);
        game.lease(0, 0, 0, 20);
        game.order(0, 0, 0, false, 1);
        game.truce(0, 100);
        Check.refused("prepare of 1 too much", game, CANNOT, () -> game.prepare(2, 0, 0));
        game.order(0, 0, 0, true, 1);
        Check.due("prepare of all again", game.prepare(2, 0, 0), 4);
    }

    private static void preparingBesidesAnother() {
        Castlequorum game = new Castlequorum();
        game.truce(0, 10);
        game.truce(0, 10);
        game.truce(0, 10);
        game.prepare(0, 0, 0);
        Check.refused("prepare besides another", game, CANNOT, () -> game.prepare(1, 0, 0));
        Check.due("prepare at the other castle", game.prepare(1, 1, 0), 0);
        Check.refused("and the first besides that one", game, CANNOT, () -> game.prepare(0, 1, 0));
        game.decide(0, false);
        Check.refused("prepare besides a decided one", game, CANNOT, () -> game.prepare(1, 0, 0));
        Check.refused("prepare of a decided one", game, CANNOT, () -> game.prepare(0, 1, 0));
        game.settle(0);
        Check.refused("prepare of a settled one", game, CANNOT, () -> game.prepare(0, 0, 0));
        game.decide(2, false);
        Check.refused("prepare of one that was never prepared and is decided", game, CANNOT,
            () -> game.prepare(2, 0, 0));
        Check.due("prepare when the other one is settled", game.prepare(1, 0, 0), 2);
        Check.due("held gold", game.gold(0, true), 10);
    }

    private static void preparingWhereOneHangs() {
        Castlequorum game = new Castlequorum();
        game.truce(0, 10);
        game.lease(1, 0, 0, 20);
        game.cut(0, 0, 1, true);
        game.cut(0, 1, 1, true);
        game.order(1, 0, 0, false, 5);
        Check.refused("prepare where an entry hangs", game, CANNOT, () -> game.prepare(0, 0, 0));
        Check.due("prepare at the other castle", game.prepare(0, 1, 0), 0);
        game.spread(0);
        Check.due("prepare where none hangs any more", game.prepare(0, 0, 0), 1);
    }

    /** A castle 0 with so many entries, leased to lord 0 at gate 0, and truce 0 of 10 from castle 0 begun. */
    private static Castlequorum filled(int entries) {
        Castlequorum game = new Castlequorum();
        game.truce(0, 10);
        game.lease(0, 0, 0, 20);
        for (int entry = 0; entry < entries; entry++) {
            game.order(0, 0, 0, entry % 2 == 1, 1);
        }
        return game;
    }

    private static void preparingFull() {
        Castlequorum game = filled(60);
        Check.refused("prepare into a full row", game, FULL, () -> game.prepare(0, 0, 0));
        Check.due("the truce is not prepared", game.truceOf(0, 0), '-');
        Check.refused("prepare of truce 1 into it", game, INDEX, () -> game.prepare(1, 0, 0));
        game.truce(0, 999);
        Check.refused("prepare of too much into it", game, CANNOT, () -> game.prepare(1, 0, 0));
        Castlequorum other = filled(59);
        Check.due("prepare as the 60th", other.prepare(0, 0, 0), 59);
    }

    private static void deciding() {
        Castlequorum game = new Castlequorum();
        game.truce(0, 10);
        Check.refused("decide of what is not prepared", game, CANNOT, () -> game.decide(0, true));
        game.prepare(0, 1, 0);
        Check.refused("decide of what is prepared at one", game, CANNOT, () -> game.decide(0, true));
        game.prepare(0, 0, 0);
        Check.due("decide", game.decide(0, true), 2);
        Check.refused("decide again", game, CANNOT, () -> game.decide(0, true));
        Check.refused("decide otherwise", game, CANNOT, () -> game.decide(0, false));
        Check.due("it is not settled by that", game.truceOf(0, 0), 'p');
        Check.due("gold is still held", game.gold(0, true), 10);
        game.settle(0);
        game.settle(1);
        Check.refused("decide of what is settled", game, CANNOT, () -> game.decide(0, false));
        Check.refused("decide(1)", game, INDEX, () -> game.decide(1, true));
        Check.refused("decide(-1)", game, INDEX, () -> game.decide(-1, false));
    }

    private static void decidingAborted() {
        Castlequorum game = new Castlequorum();
        for (int truce = 0; truce < 3; truce++) {
            game.truce(0, 10);
        }
        Check.due("abort of what is not prepared", game.decide(0, false), 0);
        Check.refused("decide again", game, CANNOT, () -> game.decide(0, true));
        game.prepare(1, 0, 0);
        Check.due("abort of what is prepared at one", game.decide(1, false), 1);
        Check.refused("prepare of it at the other", game, CANNOT, () -> game.prepare(1, 1, 0));
        game.settle(0);
        game.prepare(2, 0, 0);
        game.prepare(2, 1, 0);
        Check.due("abort of what is prepared at both", game.decide(2, false), 2);
        Check.due("settle as aborted", game.settle(1), 2);
        Check.due("truceOf", game.truceOf(2, 1), 'a');
    }

    private static void settlingDone() {
        Castlequorum game = new Castlequorum();
        game.truce(0, 1);
        game.truce(0, 40);
        game.prepare(1, 0, 0);
        Check.refused("settle of what is not decided", game, CANNOT, () -> game.settle(0));
        game.prepare(1, 1, 0);
        game.decide(1, true);
        game.fall(0, 0);
        Check.due("settle", game.settle(0), 1);
        Check.due("letter", game.entryOf(0, 1), 'd');
        Check.due("amount", game.amountOf(0, 1), 40);
        Check.due("it is written to what is up", game.has(0, 1, 1), true);
        Check.due("and not to what is down", game.has(0, 0, 1), false);
        Check.due("it counts", game.counting(0), 2);
        Check.due("gold", game.gold(0, false), 60);
        Check.due("held gold", game.gold(0, true), 0);
        Check.due("gold that is not yet there", game.gold(1, false), 100);
        Check.due("sound in between", game.isSound(), true);
        Check.refused("settle again", game, CANNOT, () -> game.settle(0));
        Check.due("settle at the other castle", game.settle(1), 1);
        Check.due("gold there", game.gold(1, false), 140);
        Check.due("held gold there", game.gold(1, true), 0);
        Check.refused("settle(2)", game, INDEX, () -> game.settle(2));
        Check.refused("settle(-1)", game, INDEX, () -> game.settle(-1));
    }

    private static void settlingAborted() {
        Castlequorum game = new Castlequorum();
        Check.refused("settle without truces", game, CANNOT, () -> game.settle(0));
        game.truce(1, 40);
        game.prepare(0, 0, 0);
        game.prepare(0, 1, 0);
        game.decide(0, false);
        Check.due("settle at the castle from which", game.settle(1), 0);
        Check.due("letter", game.entryOf(1, 1), 'a');
        Check.due("amount", game.amountOf(1, 1), 40);
        Check.due("gold", game.gold(1, false), 100);
        Check.due("held gold", game.gold(1, true), 0);
        Check.due("settle at the other one", game.settle(0), 0);
        Check.due("gold there", game.gold(0, false), 100);
        Check.due("held gold there", game.gold(0, true), 0);
    }

    private static void settlingNeedsQuorum() {
        Castlequorum game = new Castlequorum();
        game.truce(0, 40);
        game.prepare(0, 0, 0);
        game.decide(0, false);
        game.fall(0, 0);
        game.fall(0, 1);
        Check.refused("settle with 1 of 3 up", game, CANNOT, () -> game.settle(0));
        Check.due("gold is still held", game.gold(0, true), 40);
        game.rise(0, 1);
        for (int lord = 0; lord < 4; lord++) {
            game.cut(0, 1, lord, true);
            game.cut(0, 2, lord, true);
        }
        Check.due("settle with 2 of 3 up, near to nobody", game.settle(0), 0);
        Check.due("a waiting one has it", game.has(0, 1, 1), true);
    }

    private static void settlingWhereOneHangs() {
        Castlequorum game = new Castlequorum();
        game.truce(0, 40);
        game.prepare(0, 0, 0);
        game.decide(0, false);
        game.lease(0, 0, 0, 20);
        game.cut(0, 0, 0, true);
        game.cut(0, 1, 0, true);
        game.order(0, 0, 0, false, 60);
        Check.refused("settle where an entry hangs", game, CANNOT, () -> game.settle(0));
        game.burn(0, 2);
        game.strike(0);
        Check.due("settle where it is struck", game.settle(0), 0);
        Check.due("gold", game.gold(0, false), 100);
    }

    private static void settlingFull() {
        Castlequorum game = filled(58);
        game.prepare(0, 0, 0);
        game.order(0, 0, 0, false, 1);
        Check.refused("settle of what is not decided, into a full row", game, CANNOT, () -> game.settle(0));
        game.decide(0, false);
        Check.refused("settle into a full row", game, FULL, () -> game.settle(0));
        Check.due("the truce is prepared", game.truceOf(0, 0), 'p');
        game.fall(0, 0);
        game.fall(0, 1);
        Check.refused("settle into it without a quorum", game, CANNOT, () -> game.settle(0));
        Check.refused("settle at castle 2", game, INDEX, () -> game.settle(2));
        Castlequorum other = filled(58);
        other.prepare(0, 0, 0);
        other.decide(0, false);
        Check.due("settle as the 60th", other.settle(0), 0);
        Check.due("entries", other.entries(0), 60);
    }

    private static void states() {
        Castlequorum game = new Castlequorum();
        game.truce(0, 10);
        game.truce(1, 10);
        Check.due("truceOf", game.truceOf(0, 0), '-');
        game.prepare(0, 0, 0);
        Check.due("truceOf", game.truceOf(0, 0), 'p');
        Check.due("truceOf at the other castle", game.truceOf(0, 1), '-');
        Check.due("truceOf of another", game.truceOf(1, 0), '-');
        game.prepare(0, 1, 0);
        game.decide(0, true);
        game.settle(0);
        Check.due("truceOf", game.truceOf(0, 0), 'd');
        Check.due("truceOf at the other castle", game.truceOf(0, 1), 'p');
        game.settle(1);
        game.prepare(1, 1, 0);
        game.decide(1, false);
        game.settle(1);
        Check.due("truceOf", game.truceOf(1, 1), 'a');
        Check.due("an aborted one that was not prepared there", game.truceOf(1, 0), '-');
        Check.refused("truceOf(2, 0)", game, INDEX, () -> game.truceOf(2, 0));
        Check.refused("truceOf(-1, 0)", game, INDEX, () -> game.truceOf(-1, 0));
        Check.refused("truceOf(0, 2)", game, INDEX, () -> game.truceOf(0, 2));
        Check.refused("truceOf(0, -1)", game, INDEX, () -> game.truceOf(0, -1));
    }
}
