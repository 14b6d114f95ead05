/** Promises 36 to 40: time, checksum, upShare, meanEntries, isSound. */
public final class FiguresTest {
    private static final Class<IndexOutOfBoundsException> INDEX = IndexOutOfBoundsException.class;

    public static void main(String[] arguments) {
        timing();
        summing();
        upShares();
        means();
        soundRuns();
        unsoundGate();
        unsoundGold();
        unsoundPurse();
        Check.end();
    }

    private static void timing() {
        Castlequorum game = new Castlequorum();
        Check.due("time", game.time(), 0);
        game.wait(7);
        game.lease(0, 0, 0, 20);
        game.fall(0, 0);
        Check.due("time goes by wait alone", game.time(), 7);
    }

    private static long sumOf(int[] figures) {
        long sum = 7;
        for (int figure : figures) {
            sum = 31 * sum + figure;
        }
        return sum;
    }

    private static void summing() {
        Castlequorum game = new Castlequorum();
        Check.due("checksum", game.checksum(), sumOf(new int[] {100, 0, 0, 0, 0, 100, 0, 0, 0, 0}));
        for (int lord = 0; lord < 3; lord++) {
            game.lease(lord, lord % 2, lord, 20);
            game.order(lord, lord % 2, lord, false, 10 + lord);
        }
        game.truce(0, 50);
        game.prepare(0, 0, 0);
        Check.due("checksum", game.checksum(), sumOf(new int[] {78, 10, 0, 12, 0, 89, 0, 11, 0, 0}));
        game.build(1, 3, 9999);
        Check.due("checksum after build", game.checksum(), sumOf(new int[] {78, 10, 0, 12, 0, 9999, 0, 0, 0, 0}));
    }

    private static void upShares() {
        Castlequorum game = new Castlequorum();
        Check.due("upShare", game.upShare(0), 1.0);
        game.fall(0, 1);
        Check.due("upShare of 2 of 3", game.upShare(0), 2f / 3f);
        Check.due("upShare of the other castle", game.upShare(1), 1.0);
        game.rise(0, 1);
        Check.due("upShare with a waiting one", game.upShare(0), 1.0);
        for (int towers = 1; towers <= 7; towers++) {
            game.build(1, towers, 0);
            for (int tower = 0; tower < towers; tower++) {
                game.burn(1, tower);
                Check.due("upShare", game.upShare(1), (float) (towers - tower - 1) / (float) towers);
            }
        }
        Check.refused("upShare(2)", game, INDEX, () -> game.upShare(2));
        Check.refused("upShare(-1)", game, INDEX, () -> game.upShare(-1));
    }

    private static void means() {
        Castlequorum game = new Castlequorum();
        Check.due("meanEntries", game.meanEntries(0), 0.0);
        game.lease(0, 0, 0, 20);
        game.order(0, 0, 0, false, 1);
        Check.due("meanEntries", game.meanEntries(0), 1.0);
        game.cut(0, 0, 0, true);
        game.order(0, 0, 0, false, 1);
        Check.due("meanEntries of 5 in 3", game.meanEntries(0), 5.0 / 3.0);
        game.fall(0, 1);
        Check.due("a fallen tower has its entries", game.meanEntries(0), 5.0 / 3.0);
        game.burn(0, 1);
        Check.due("a burnt one has none", game.meanEntries(0), 1.0);
        Check.due("meanEntries of the other castle", game.meanEntries(1), 0.0);
        game.build(0, 7, 100);
        Check.due("meanEntries after build", game.meanEntries(0), 0.0);
        Check.refused("meanEntries(2)", game, INDEX, () -> game.meanEntries(2));
        Check.refused("meanEntries(-1)", game, INDEX, () -> game.meanEntries(-1));
    }

    private static void soundRuns() {
        Castlequorum game = new Castlequorum();
        Check.due("isSound", game.isSound(), true);
        for (int truce = 0; truce < 8; truce++) {
            game.build(truce % 2, 3, 200);
            game.truce(truce % 3 == 0 ? 0 : 1, 30);
            game.lease(truce % 4, 0, 0, 20);
            game.order(truce % 4, 0, 0, false, 20);
            game.prepare(truce, 0, 0);
            game.prepare(truce, 1, 1);
            game.decide(truce, truce != 5);
            Check.due("isSound", game.isSound(), true);
            game.settle(0);
            Check.due("isSound", game.isSound(), true);
            game.settle(1);
            Check.due("isSound", game.isSound(), true);
            game.wait(20);
        }
    }

    private static void unsoundGate() {
        for (int castle = 0; castle < 2; castle++) {
            for (int gate = 0; gate < 3; gate++) {
                Castlequorum game = new Castlequorum();
                game.lease(0, castle, gate, 20);
                Inside.leaseAt(game, castle, gate, 3, 1);
                Check.due("isSound with a gate that is open for two lords", game.isSound(), false);
                game.wait(1);
                Check.due("isSound when one lease has ended", game.isSound(), true);
            }
        }
    }

    private static void unsoundGold() {
        Castlequorum game = new Castlequorum();
        game.truce(0, 60);
        game.prepare(0, 0, 0);
        Inside.amountAt(game, 0, 0, 100);
        Check.due("isSound with all gold held", game.isSound(), true);
        Inside.amountAt(game, 0, 0, 101);
        Check.due("isSound with more gold held than there is", game.isSound(), false);
        Inside.amountAt(game, 0, 0, -1);
        Check.due("isSound with held gold below 0", game.isSound(), false);
    }

    private static void unsoundPurse() {
        for (int lord = 0; lord < 4; lord++) {
            Castlequorum game = new Castlequorum();
            game.lease(lord, 0, 0, 20);
            game.order(lord, 0, 0, false, 10);
            Inside.amountAt(game, 0, 0, -1);
            Check.due("isSound with a purse below 0", game.isSound(), false);
        }
    }
}
