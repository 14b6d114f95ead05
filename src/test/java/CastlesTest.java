/** Promises 1 to 7: a new object, build, wait, fall, burn, rise, cut. */
public final class CastlesTest {
    private static final Class<IndexOutOfBoundsException> INDEX = IndexOutOfBoundsException.class;
    private static final Class<IllegalArgumentException> ARGUMENT = IllegalArgumentException.class;
    private static final Class<UnsupportedOperationException> CANNOT = UnsupportedOperationException.class;

    public static void main(String[] arguments) {
        newObject();
        buildAnew();
        buildBounds();
        buildAndTruces();
        buildAndSights();
        buildMendsTowers();
        waiting();
        falling();
        fallingLosesVotes();
        burning();
        rising();
        risingWaits();
        cutting();
        Check.end();
    }

    private static void newObject() {
        Castlequorum game = new Castlequorum();
        Check.due("time at first", game.time(), 0);
        for (int castle = 0; castle < 2; castle++) {
            int here = castle;
            for (int tower = 0; tower < 3; tower++) {
                Check.due("tower at first", game.tower(castle, tower), 'u');
            }
            Check.refused("a fourth tower at first", game, INDEX, () -> game.tower(here, 3));
            Check.due("gold at first", game.gold(castle, false), 100);
            Check.due("held gold at first", game.gold(castle, true), 0);
            Check.due("entries at first", game.entries(castle), 0);
            for (int lord = 0; lord < 4; lord++) {
                Check.due("purse at first", game.purse(lord, castle), 0);
                Check.due("near at first", game.near(lord, castle), 3);
            }
        }
        Check.refused("a sight at first", game, INDEX, () -> game.read(0, true));
        Check.refused("a truce at first", game, INDEX, () -> game.truceOf(0, 0));
    }

    private static void buildAnew() {
        Castlequorum game = new Castlequorum();
        game.lease(0, 0, 0, 10);
        game.order(0, 0, 0, false, 30);
        game.order(0, 0, 0, true, 10);
        game.cut(0, 1, 2, true);
        game.lease(1, 1, 2, 10);
        game.order(1, 1, 2, false, 5);
        Check.due("build", game.build(0, 5, 0), 2);
        Check.due("entries after build", game.entries(0), 0);
        Check.due("gold after build", game.gold(0, false), 0);
        Check.due("purse after build", game.purse(0, 0), 0);
        Check.due("lease after build", game.leaseOf(0, 0, 0), 0);
        Check.due("near after build", game.near(2, 0), 5);
        Check.refused("openFor after build", game, java.util.NoSuchElementException.class, () -> game.openFor(0, 0));
        Check.refused("voteOf after build", game, java.util.NoSuchElementException.class, () -> game.voteOf(0, 0, 0));
        Check.due("the gate is free for another lord", game.lease(3, 0, 0, 1), 1);
        Check.due("the other castle's lease", game.leaseOf(1, 1, 2), 10);
        Check.due("the other castle's purse", game.purse(1, 1), 5);
        Check.due("build again", game.build(0, 1, 9999), 0);
        Check.due("gold after it", game.gold(0, false), 9999);
    }

    private static void buildBounds() {
        Castlequorum game = new Castlequorum();
        Check.due("build of 1 tower", game.build(0, 1, 0), 0);
        Check.due("build of 7 towers", game.build(1, 7, 9999), 0);
        Check.due("the last of 7 towers", game.tower(1, 6), 'u');
        Check.refused("tower 7 of 7", game, INDEX, () -> game.tower(1, 7));
        Check.refused("tower 1 of 1", game, INDEX, () -> game.tower(0, 1));
        Check.refused("build(-1)", game, INDEX, () -> game.build(-1, 3, 100));
        Check.refused("build(2)", game, INDEX, () -> game.build(2, 3, 100));
        Check.refused("build(2, 0, -1)", game, INDEX, () -> game.build(2, 0, -1));
        Check.refused("build of 0 towers", game, ARGUMENT, () -> game.build(0, 0, 100));
        Check.refused("build of 8 towers", game, ARGUMENT, () -> game.build(0, 8, 100));
        Check.refused("build with gold -1", game, ARGUMENT, () -> game.build(0, 3, -1));
        Check.refused("build with gold 10000", game, ARGUMENT, () -> game.build(0, 3, 10000));
        Check.refused("build of many", game, ARGUMENT, () -> game.build(0, Integer.MAX_VALUE, Integer.MIN_VALUE));
    }

    private static void buildAndTruces() {
        Castlequorum game = new Castlequorum();
        game.truce(0, 10);
        Check.due("build with a truce that is not prepared", game.build(0, 3, 100), 0);
        game.prepare(0, 0, 0);
        Check.refused("build with a prepared truce", game, CANNOT, () -> game.build(0, 3, 100));
        Check.refused("build with a prepared truce, out of range", game, ARGUMENT, () -> game.build(0, 0, 100));
        Check.due("build of the other castle", game.build(1, 3, 100), 0);
        game.prepare(0, 1, 0);
        game.decide(0, true);
        Check.refused("build with a decided truce", game, CANNOT, () -> game.build(0, 3, 100));
        game.settle(0);
        Check.due("build after it is settled there", game.build(0, 3, 50), 2);
        Check.due("the truce is as it was", game.truceOf(0, 0), 'd');
        Check.due("gold is as built", game.gold(0, false), 50);
        Check.refused("build where it is not settled", game, CANNOT, () -> game.build(1, 3, 100));
        game.settle(1);
        Check.due("gold moved", game.gold(1, false), 110);
        Check.due("build after both", game.build(1, 3, 100), 2);
        Check.due("soundness is of what was settled since", game.isSound(), true);
    }

    private static void buildAndSights() {
        Castlequorum game = new Castlequorum();
        game.lease(0, 0, 0, 20);
        game.scout(0, 0);
        game.scout(0, 1);
        game.won(0);
        game.build(0, 3, 100);
        Check.refused("a sight of a castle built anew", game, CANNOT, () -> game.read(0, false));
        Check.due("raid by it", game.raid(0, 0), 'o');
        Check.due("a sight of the other castle", game.read(1, false), 100);
        game.scout(0, 0);
        Check.due("a sight after it", game.read(2, false), 100);
        game.lease(0, 0, 0, 20);
        game.raid(2, 0);
        game.build(0, 3, 100);
        Check.due("wins stay", game.won(0), 1);
    }

    private static void buildMendsTowers() {
        Castlequorum game = new Castlequorum();
        for (int tower = 0; tower < 3; tower++) {
            game.fall(0, tower);
            game.rise(0, tower);
        }
        game.fall(0, 1);
        game.build(0, 3, 100);
        Check.due("a waiting tower", game.tower(0, 0), 'u');
        Check.due("a fallen tower", game.tower(0, 1), 'u');
        Check.due("another waiting tower", game.tower(0, 2), 'u');
        Check.due("a lease of all", game.lease(0, 0, 0, 1), 1);
        Check.due("a vote of what was down", game.voteOf(0, 1, 0), 0);
    }

    private static void waiting() {
        Castlequorum game = new Castlequorum();
        Check.due("wait(1)", game.wait(1), 1);
        Check.due("wait(100)", game.wait(100), 101);
        Check.due("time", game.time(), 101);
        Check.refused("wait(0)", game, ARGUMENT, () -> game.wait(0));
        Check.refused("wait(-1)", game, ARGUMENT, () -> game.wait(-1));
        Check.refused("wait(101)", game, ARGUMENT, () -> game.wait(101));
        Check.refused("wait(MIN)", game, ARGUMENT, () -> game.wait(Integer.MIN_VALUE));
    }

    private static void falling() {
        Castlequorum game = new Castlequorum();
        game.lease(0, 0, 0, 10);
        game.order(0, 0, 0, false, 30);
        Check.due("fall", game.fall(0, 2), true);
        Check.due("tower", game.tower(0, 2), 'd');
        Check.due("fall again", game.fall(0, 2), false);
        Check.due("its entry stays", game.has(0, 2, 0), true);
        Check.due("the other castle's tower", game.tower(1, 2), 'u');
        Check.refused("fall(2, 0)", game, INDEX, () -> game.fall(2, 0));
        Check.refused("fall(-1, 0)", game, INDEX, () -> game.fall(-1, 0));
        Check.refused("fall(0, 3)", game, INDEX, () -> game.fall(0, 3));
        Check.refused("fall(0, -1)", game, INDEX, () -> game.fall(0, -1));
    }

    private static void fallingLosesVotes() {
        Castlequorum game = new Castlequorum();
        for (int gate = 0; gate < 3; gate++) {
            game.lease(gate, 0, gate, 20);
        }
        game.fall(0, 1);
        for (int gate = 0; gate < 3; gate++) {
            int door = gate;
            Check.refused("a vote of a fallen tower", game, java.util.NoSuchElementException.class,
                () -> game.voteOf(0, 1, door));
            Check.due("a vote of another tower", game.voteOf(0, 0, gate), gate);
            Check.due("the lease stays", game.openFor(0, gate), gate);
        }
    }

    private static void burning() {
        Castlequorum game = new Castlequorum();
        game.lease(0, 0, 0, 10);
        game.order(0, 0, 0, false, 30);
        game.cut(0, 2, 0, true);
        game.order(0, 0, 0, false, 5);
        Check.due("burn of a tower with 1 of 2", game.burn(0, 2), 1);
        Check.due("burn of a tower with 2", game.burn(0, 1), 2);
        Check.due("burn again", game.burn(0, 1), 0);
        Check.due("tower", game.tower(0, 1), 'd');
        Check.due("has it", game.has(0, 1, 0), false);
        Check.due("another tower has it", game.has(0, 0, 0), true);
        Check.due("committed stays", game.isCommitted(0, 0), true);
        Check.refused("its vote", game, java.util.NoSuchElementException.class, () -> game.voteOf(0, 1, 0));
        game.fall(0, 0);
        Check.due("burn of a tower that is down", game.burn(0, 0), 2);
        Check.due("gold still counts", game.gold(0, false), 65);
        Check.due("burn of the other castle's", game.burn(1, 0), 0);
        Check.refused("burn(2, 0)", game, INDEX, () -> game.burn(2, 0));
        Check.refused("burn(-1, 0)", game, INDEX, () -> game.burn(-1, 0));
        Check.refused("burn(0, 3)", game, INDEX, () -> game.burn(0, 3));
        Check.refused("burn(0, -1)", game, INDEX, () -> game.burn(0, -1));
    }

    private static void rising() {
        Castlequorum game = new Castlequorum();
        Check.due("rise of a tower that is up", game.rise(0, 0), false);
        Check.due("it does not wait", game.tower(0, 0), 'u');
        game.fall(0, 0);
        Check.due("rise", game.rise(0, 0), true);
        Check.due("it waits", game.tower(0, 0), 'w');
        game.wait(10);
        Check.due("rise of a waiting one", game.rise(0, 0), false);
        game.wait(9);
        Check.due("19 ticks later", game.tower(0, 0), 'w');
        game.wait(1);
        Check.due("20 ticks later", game.tower(0, 0), 'u');
        Check.refused("rise(2, 0)", game, INDEX, () -> game.rise(2, 0));
        Check.refused("rise(-1, 0)", game, INDEX, () -> game.rise(-1, 0));
        Check.refused("rise(1, 3)", game, INDEX, () -> game.rise(1, 3));
        Check.refused("rise(1, -1)", game, INDEX, () -> game.rise(1, -1));
    }

    private static void risingWaits() {
        Castlequorum game = new Castlequorum();
        game.burn(0, 0);
        game.burn(0, 1);
        game.rise(0, 0);
        game.rise(0, 1);
        game.wait(19);
        Check.refused("a lease while two of three wait", game, CANNOT, () -> game.lease(0, 0, 0, 1));
        game.fall(0, 0);
        game.rise(0, 0);
        game.wait(1);
        Check.due("a lease by the others", game.lease(0, 0, 0, 1), 21);
        Check.refused("a vote of what waits anew", game, java.util.NoSuchElementException.class,
            () -> game.voteOf(0, 0, 0));
        Check.due("a vote of what waited", game.voteTill(0, 1, 0), 21);
    }

    private static void cutting() {
        Castlequorum game = new Castlequorum();
        Check.due("cut", game.cut(0, 1, 2, true), false);
        Check.due("cut again", game.cut(0, 1, 2, true), true);
        Check.due("near to the lord", game.near(2, 0), 2);
        Check.due("near to another lord", game.near(1, 0), 3);
        Check.due("near at the other castle", game.near(2, 1), 3);
        Check.due("mend", game.cut(0, 1, 2, false), true);
        Check.due("mend again", game.cut(0, 1, 2, false), false);
        Check.due("near after it", game.near(2, 0), 3);
        game.lease(3, 0, 0, 5);
        game.cut(0, 0, 3, true);
        Check.due("a vote stays when the link is cut", game.voteOf(0, 0, 0), 3);
        game.fall(0, 2);
        game.cut(0, 2, 3, true);
        game.rise(0, 2);
        Check.due("a cut stays when the tower rises", game.near(3, 0), 1);
        Check.refused("cut(2, 0, 0)", game, INDEX, () -> game.cut(2, 0, 0, true));
        Check.refused("cut(-1, 0, 0)", game, INDEX, () -> game.cut(-1, 0, 0, true));
        Check.refused("cut(0, 3, 0)", game, INDEX, () -> game.cut(0, 3, 0, true));
        Check.refused("cut(0, -1, 0)", game, INDEX, () -> game.cut(0, -1, 0, true));
        Check.refused("cut(0, 0, 4)", game, INDEX, () -> game.cut(0, 0, 4, true));
        Check.refused("cut(0, 0, -1)", game, INDEX, () -> game.cut(0, 0, -1, true));
    }
}
