import java.util.NoSuchElementException;

/** Promises 8 to 15: lease, giveUp, leaseOf, openFor, voteOf, voteTill, near, tower. */
public final class GatesTest {
    private static final Class<IndexOutOfBoundsException> INDEX = IndexOutOfBoundsException.class;
    private static final Class<IllegalArgumentException> ARGUMENT = IllegalArgumentException.class;
    private static final Class<UnsupportedOperationException> CANNOT = UnsupportedOperationException.class;
    private static final Class<NoSuchElementException> NOBODY = NoSuchElementException.class;

    public static void main(String[] arguments) {
        leaseBounds();
        leaseGrows();
        leaseNeedsQuorum();
        leaseOfSeven();
        leaseAgainstVotes();
        leaseAfterVotesOfAnother();
        laterVoteStays();
        givingUp();
        givingUpLeavesFarVotes();
        givingUpCountsVotesThatHold();
        leases();
        openings();
        votes();
        nearness();
        towers();
        Check.end();
    }

    private static void leaseBounds() {
        Castlequorum game = new Castlequorum();
        game.wait(3);
        Check.due("lease for 1 tick", game.lease(0, 0, 0, 1), 4);
        Check.due("lease for 20 ticks", game.lease(3, 1, 2, 20), 23);
        Check.refused("lease for 0", game, ARGUMENT, () -> game.lease(0, 0, 0, 0));
        Check.refused("lease for 21", game, ARGUMENT, () -> game.lease(0, 0, 0, 21));
        Check.refused("lease for -1", game, ARGUMENT, () -> game.lease(0, 0, 0, -1));
        Check.refused("lease for MAX", game, ARGUMENT, () -> game.lease(0, 0, 0, Integer.MAX_VALUE));
        Check.refused("lease of lord 4", game, INDEX, () -> game.lease(4, 0, 0, 1));
        Check.refused("lease of lord -1", game, INDEX, () -> game.lease(-1, 0, 0, 1));
        Check.refused("lease at castle 2", game, INDEX, () -> game.lease(0, 2, 0, 1));
        Check.refused("lease at castle -1", game, INDEX, () -> game.lease(0, -1, 0, 1));
        Check.refused("lease of gate 3", game, INDEX, () -> game.lease(0, 0, 3, 1));
        Check.refused("lease of gate -1", game, INDEX, () -> game.lease(0, 0, -1, 1));
        Check.refused("lease of gate 3 for 0", game, INDEX, () -> game.lease(0, 0, 3, 0));
        Check.refused("lease of a voted gate for 0", game, ARGUMENT, () -> game.lease(1, 0, 0, 0));
        Check.refused("lease of a voted gate", game, CANNOT, () -> game.lease(1, 0, 0, 1));
    }

    private static void leaseGrows() {
        Castlequorum game = new Castlequorum();
        game.lease(0, 0, 0, 10);
        Check.due("a shorter lease", game.lease(0, 0, 0, 5), 10);
        Check.due("its votes", game.voteTill(0, 0, 0), 10);
        Check.due("a longer lease", game.lease(0, 0, 0, 15), 15);
        Check.due("its votes", game.voteTill(0, 2, 0), 15);
        Check.due("another gate is free", game.lease(1, 0, 1, 2), 2);
        Check.due("the other castle is free", game.lease(1, 1, 0, 2), 2);
    }

    private static void leaseNeedsQuorum() {
        Castlequorum game = new Castlequorum();
        game.cut(0, 0, 0, true);
        Check.due("2 of 3 near", game.lease(0, 0, 0, 1), 1);
        Check.refused("a vote of the one that is cut off", game, NOBODY, () -> game.voteOf(0, 0, 0));
        game.cut(0, 1, 0, true);
        Check.refused("1 of 3 near", game, CANNOT, () -> game.lease(0, 0, 0, 1));
        game.build(1, 4, 100);
        game.fall(1, 0);
        Check.due("3 of 4 up", game.lease(0, 1, 0, 1), 1);
        game.fall(1, 1);
        Check.refused("2 of 4 up", game, CANNOT, () -> game.lease(0, 1, 1, 1));
        game.build(1, 1, 100);
        Check.due("1 of 1 up", game.lease(0, 1, 0, 1), 1);
        game.fall(1, 0);
        Check.refused("0 of 1 up", game, CANNOT, () -> game.lease(0, 1, 0, 1));
    }

    private static void leaseOfSeven() {
        Castlequorum game = new Castlequorum();
        game.build(0, 7, 100);
        game.fall(0, 0);
        game.fall(0, 1);
        game.cut(0, 6, 2, true);
        Check.due("4 of 7", game.lease(2, 0, 2, 7), 7);
        Check.due("the vote of 5", game.voteOf(0, 5, 2), 2);
        Check.refused("the vote of 6", game, NOBODY, () -> game.voteOf(0, 6, 2));
        game.fall(0, 2);
        Check.refused("3 of 7", game, CANNOT, () -> game.lease(2, 0, 2, 7));
        Check.due("the lease stays", game.openFor(0, 2), 2);
    }

    private static void leaseAgainstVotes() {
        Castlequorum game = new Castlequorum();
        game.build(0, 5, 100);
        game.cut(0, 3, 0, true);
        game.cut(0, 4, 0, true);
        game.lease(0, 0, 0, 10);
        Check.refused("2 of 5 have no vote", game, CANNOT, () -> game.lease(1, 0, 0, 20));
        game.wait(9);
        Check.refused("one tick before the votes end", game, CANNOT, () -> game.lease(1, 0, 0, 20));
        game.wait(1);
        Check.due("when they have ended", game.lease(1, 0, 0, 20), 30);
        Check.due("all five vote", game.voteOf(0, 0, 0), 1);
        Check.due("all five vote", game.voteOf(0, 4, 0), 1);
    }

    private static void leaseAfterVotesOfAnother() {
        Castlequorum game = new Castlequorum();
        game.build(0, 5, 100);
        game.cut(0, 0, 0, true);
        game.cut(0, 1, 0, true);
        game.lease(0, 0, 0, 20);
        game.fall(0, 4);
        Check.refused("2 of 5", game, CANNOT, () -> game.lease(1, 0, 0, 5));
        game.rise(0, 4);
        Check.refused("2 of 5 and a waiting one", game, CANNOT, () -> game.lease(1, 0, 0, 5));
        game.wait(19);
        Check.refused("a tick before the lease ends", game, CANNOT, () -> game.lease(1, 0, 0, 5));
        Check.due("open for the first lord", game.openFor(0, 0), 0);
        game.wait(1);
        Check.due("the second lord's lease", game.lease(1, 0, 0, 5), 25);
        Check.due("open for him", game.openFor(0, 0), 1);
    }

    private static void laterVoteStays() {
        Castlequorum game = new Castlequorum();
        game.lease(0, 0, 0, 20);
        game.cut(0, 0, 0, true);
        Check.due("giveUp with one far vote", game.giveUp(0, 0, 0), 2);
        game.cut(0, 0, 0, false);
        Check.due("a lease for 3 ticks", game.lease(0, 0, 0, 3), 3);
        Check.due("the vote that was later", game.voteTill(0, 0, 0), 20);
        Check.due("a vote that was given up", game.voteTill(0, 1, 0), 3);
        game.wait(3);
        Check.refused("the gate at tick 3", game, NOBODY, () -> game.openFor(0, 0));
        Check.due("the lease of another by the others", game.lease(1, 0, 0, 20), 23);
        Check.due("the vote that still holds", game.voteOf(0, 0, 0), 0);
        Check.due("the vote of the new one", game.voteOf(0, 1, 0), 1);
    }

    private static void givingUp() {
        Castlequorum game = new Castlequorum();
        game.lease(0, 0, 0, 10);
        game.lease(0, 0, 1, 10);
        Check.refused("giveUp of a gate that is open for another", game, CANNOT, () -> game.giveUp(1, 0, 0));
        Check.refused("giveUp of a closed gate", game, CANNOT, () -> game.giveUp(0, 0, 2));
        Check.due("giveUp", game.giveUp(0, 0, 0), 3);
        Check.due("the lease", game.leaseOf(0, 0, 0), 0);
        Check.refused("the gate", game, NOBODY, () -> game.openFor(0, 0));
        Check.refused("the vote", game, NOBODY, () -> game.voteOf(0, 0, 0));
        Check.due("the other gate", game.openFor(0, 1), 0);
        Check.due("the other gate's vote", game.voteOf(0, 0, 1), 0);
        Check.refused("giveUp again", game, CANNOT, () -> game.giveUp(0, 0, 0));
        Check.due("another lord's lease at once", game.lease(1, 0, 0, 5), 5);
        game.wait(10);
        Check.refused("giveUp of an ended lease", game, CANNOT, () -> game.giveUp(0, 0, 1));
        Check.refused("giveUp of lord 4", game, INDEX, () -> game.giveUp(4, 0, 0));
        Check.refused("giveUp of lord -1", game, INDEX, () -> game.giveUp(-1, 0, 0));
        Check.refused("giveUp at castle 2", game, INDEX, () -> game.giveUp(0, 2, 0));
        Check.refused("giveUp at castle -1", game, INDEX, () -> game.giveUp(0, -1, 0));
        Check.refused("giveUp of gate 3", game, INDEX, () -> game.giveUp(0, 0, 3));
        Check.refused("giveUp of gate -1", game, INDEX, () -> game.giveUp(0, 0, -1));
    }

    private static void givingUpLeavesFarVotes() {
        Castlequorum game = new Castlequorum();
        game.lease(0, 0, 0, 10);
        game.cut(0, 0, 0, true);
        game.cut(0, 1, 0, true);
        game.fall(0, 2);
        Check.due("giveUp with no vote near", game.giveUp(0, 0, 0), 0);
        Check.due("a far vote holds", game.voteOf(0, 0, 0), 0);
        Check.refused("another lord's lease", game, CANNOT, () -> game.lease(1, 0, 0, 1));
        game.wait(10);
        Check.due("when the far votes have ended", game.lease(1, 0, 0, 1), 11);
    }

    private static void givingUpCountsVotesThatHold() {
        Castlequorum game = new Castlequorum();
        game.build(0, 5, 100);
        game.cut(0, 4, 0, true);
        game.lease(0, 0, 0, 10);
        game.wait(5);
        game.cut(0, 4, 0, false);
        game.cut(0, 0, 0, true);
        game.lease(0, 0, 0, 1);
        game.wait(1);
        Check.due("a vote that no longer holds does not count", game.giveUp(0, 0, 0), 3);
    }

    private static void leases() {
        Castlequorum game = new Castlequorum();
        Check.due("leaseOf at first", game.leaseOf(0, 0, 0), 0);
        game.lease(2, 1, 1, 4);
        Check.due("leaseOf", game.leaseOf(2, 1, 1), 4);
        Check.due("leaseOf of another lord", game.leaseOf(1, 1, 1), 0);
        Check.due("leaseOf of another gate", game.leaseOf(2, 1, 0), 0);
        Check.due("leaseOf at the other castle", game.leaseOf(2, 0, 1), 0);
        game.wait(50);
        Check.due("leaseOf of an ended lease", game.leaseOf(2, 1, 1), 4);
        game.build(1, 3, 100);
        Check.due("leaseOf after build", game.leaseOf(2, 1, 1), 0);
        Check.refused("leaseOf lord 4", game, INDEX, () -> game.leaseOf(4, 0, 0));
        Check.refused("leaseOf lord -1", game, INDEX, () -> game.leaseOf(-1, 0, 0));
        Check.refused("leaseOf castle 2", game, INDEX, () -> game.leaseOf(0, 2, 0));
        Check.refused("leaseOf castle -1", game, INDEX, () -> game.leaseOf(0, -1, 0));
        Check.refused("leaseOf gate 3", game, INDEX, () -> game.leaseOf(0, 0, 3));
        Check.refused("leaseOf gate -1", game, INDEX, () -> game.leaseOf(0, 0, -1));
    }

    private static void openings() {
        Castlequorum game = new Castlequorum();
        Check.refused("openFor at first", game, NOBODY, () -> game.openFor(0, 0));
        game.lease(3, 0, 2, 5);
        Check.due("openFor", game.openFor(0, 2), 3);
        game.wait(4);
        Check.due("openFor a tick before", game.openFor(0, 2), 3);
        game.wait(1);
        Check.refused("openFor at the tick", game, NOBODY, () -> game.openFor(0, 2));
        Check.refused("openFor castle 2", game, INDEX, () -> game.openFor(2, 0));
        Check.refused("openFor castle -1", game, INDEX, () -> game.openFor(-1, 0));
        Check.refused("openFor gate 3", game, INDEX, () -> game.openFor(0, 3));
        Check.refused("openFor gate -1", game, INDEX, () -> game.openFor(0, -1));
    }

    private static void votes() {
        Castlequorum game = new Castlequorum();
        Check.refused("voteOf at first", game, NOBODY, () -> game.voteOf(0, 0, 0));
        Check.refused("voteTill at first", game, NOBODY, () -> game.voteTill(0, 0, 0));
        game.wait(2);
        game.lease(2, 0, 1, 5);
        Check.due("voteOf", game.voteOf(0, 2, 1), 2);
        Check.due("voteTill", game.voteTill(0, 2, 1), 7);
        Check.refused("voteOf at another gate", game, NOBODY, () -> game.voteOf(0, 2, 0));
        Check.refused("voteTill at the other castle", game, NOBODY, () -> game.voteTill(1, 2, 1));
        game.wait(4);
        Check.due("voteOf a tick before", game.voteOf(0, 2, 1), 2);
        Check.due("voteTill a tick before", game.voteTill(0, 2, 1), 7);
        game.wait(1);
        Check.refused("voteOf at the tick", game, NOBODY, () -> game.voteOf(0, 2, 1));
        Check.refused("voteTill at the tick", game, NOBODY, () -> game.voteTill(0, 2, 1));
        int[][] wrong = {{2, 0, 0}, {-1, 0, 0}, {0, 3, 0}, {0, -1, 0}, {0, 0, 3}, {0, 0, -1}};
        for (int[] row : wrong) {
            String at = "(" + row[0] + ", " + row[1] + ", " + row[2] + ")";
            Check.refused("voteOf" + at, game, INDEX, () -> game.voteOf(row[0], row[1], row[2]));
            Check.refused("voteTill" + at, game, INDEX, () -> game.voteTill(row[0], row[1], row[2]));
        }
    }

    private static void nearness() {
        Castlequorum game = new Castlequorum();
        game.build(1, 7, 0);
        Check.due("near", game.near(0, 1), 7);
        game.fall(1, 6);
        Check.due("near with one down", game.near(0, 1), 6);
        game.cut(1, 6, 0, true);
        Check.due("near with that one cut", game.near(0, 1), 6);
        game.cut(1, 0, 0, true);
        Check.due("near with another cut", game.near(0, 1), 5);
        Check.due("near to lord 3", game.near(3, 1), 6);
        game.rise(1, 6);
        Check.due("a waiting one is near", game.near(3, 1), 7);
        Check.refused("near(4, 0)", game, INDEX, () -> game.near(4, 0));
        Check.refused("near(-1, 0)", game, INDEX, () -> game.near(-1, 0));
        Check.refused("near(0, 2)", game, INDEX, () -> game.near(0, 2));
        Check.refused("near(0, -1)", game, INDEX, () -> game.near(0, -1));
    }

    private static void towers() {
        Castlequorum game = new Castlequorum();
        Check.due("tower up", game.tower(1, 2), 'u');
        game.fall(1, 2);
        Check.due("tower down", game.tower(1, 2), 'd');
        game.rise(1, 2);
        Check.due("tower waiting", game.tower(1, 2), 'w');
        game.burn(1, 2);
        Check.due("a waiting tower that burnt", game.tower(1, 2), 'd');
        game.wait(30);
        Check.due("it stays down", game.tower(1, 2), 'd');
        Check.refused("tower(2, 0)", game, INDEX, () -> game.tower(2, 0));
        Check.refused("tower(-1, 0)", game, INDEX, () -> game.tower(-1, 0));
        Check.refused("tower(0, 3)", game, INDEX, () -> game.tower(0, 3));
        Check.refused("tower(0, -1)", game, INDEX, () -> game.tower(0, -1));
    }
}
