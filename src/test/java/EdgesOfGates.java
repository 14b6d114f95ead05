/** The sentences of promises 8 to 15: lease, giveUp, leaseOf, openFor, voteOf, voteTill, near, tower. */
final class EdgesOfGates {
    private EdgesOfGates() {
    }

    static void play() {
        leaseNumbers();
        leaseAnswers();
        givingUp();
        leaseOf();
        openFor();
        voteOf();
        voteTill();
        near();
        tower();
    }

    private static final String NO_LORD = "Throws `IndexOutOfBoundsException` if there is no such castle, gate or lord";
    private static final String NO_TOWER = "Throws `IndexOutOfBoundsException` if there is no such castle, tower or gate";

    /** A call with a lord, a castle and a gate. */
    private interface Three {
        void call(Castlequorum game, int lord, int castle, int gate);
    }

    private static void noSuchLordCastleOrGate(Castlequorum game, Three three) {
        int[][] rows = {{-1, 0, 0}, {4, 0, 0}, {0, -1, 0}, {0, 2, 0}, {0, 0, -1}, {0, 0, 3}, {4, 2, 3}};
        for (int[] row : rows) {
            Check.refused("lord " + row[0] + ", castle " + row[1] + ", gate " + row[2], game, Edge.INDEX,
                () -> three.call(game, row[0], row[1], row[2]));
        }
    }

    private static void leaseNumbers() {
        Edge.in("Promise 8");
        Edge.of("Asks for a gate.", () -> {
            for (int gate = 0; gate < 3; gate++) {
                Castlequorum game = new Castlequorum();
                game.lease(gate + 1, 1, gate, 20);
                for (int other = 0; other < 6; other++) {
                    Check.due("gate " + other % 3 + " of castle " + other / 3,
                        Picture.ask(game, "openFor", other / 3, other % 3),
                        other == 3 + gate ? "" + (gate + 1) : "NoSuchElementException");
                }
            }
        });
        Edge.of("`lord`: the lord, 0 to 3",
            () -> Edge.lords(Scene::unlike, (game, lord) -> game.lease(lord, 0, 1, 3), 8, 8));
        Edge.of("`castle`: the castle, 0 or 1",
            () -> Edge.castles(Scene::unlike, (game, castle) -> game.lease(0, castle, 0, 3), 15, 8));
        Edge.of("`gate`: the gate, 0 to 2",
            () -> Edge.gates(Scene::unlike, (game, gate) -> game.lease(0, 0, gate, 3), 15, 8));
        Edge.of("`ticks`: for how many ticks, 1 to 20",
            () -> Edge.bounds(Scene::unlike, (game, ticks) -> game.lease(2, 1, 1, ticks), 1, 6, 20, 25, Edge.ARGUMENT));
    }

    private static void leaseAnswers() {
        Edge.of("Returns the tick of the lease.", () -> {
            Castlequorum game = new Castlequorum();
            Check.due("at the tick 0", game.lease(0, 0, 0, 2), 2);
            Check.due("where it was", game.lease(0, 0, 0, 1), 2);
            game.wait(1);
            Check.due("as late", game.lease(0, 0, 0, 1), 2);
            Check.due("later", game.lease(0, 0, 0, 2), 3);
            Scene.wait(game, 50000);
            Check.due("much later", game.lease(0, 0, 0, 20), 50021);
            game.giveUp(0, 0, 0);
            Check.due("when it was given up", game.lease(0, 0, 0, 1), 50002);
        });
        Edge.of(NO_LORD, () -> {
            noSuchLordCastleOrGate(Scene.unlike(), (game, lord, castle, gate) -> game.lease(lord, castle, gate, 5));
            noSuchLordCastleOrGate(Scene.unlike(), (game, lord, castle, gate) -> game.lease(lord, castle, gate, 0));
        });
        Edge.of("Throws `IllegalArgumentException` if the number is out of range", () -> {
            Castlequorum game = Scene.unlike();
            for (int ticks : new int[] {0, -1, 21, Integer.MIN_VALUE, Integer.MAX_VALUE}) {
                Check.refused("where those that can vote are a quorum, " + ticks, game, Edge.ARGUMENT,
                    () -> game.lease(0, 0, 0, ticks));
                Check.refused("where they are none, " + ticks, game, Edge.ARGUMENT, () -> game.lease(1, 0, 0, ticks));
            }
        });
        Edge.of("Throws `UnsupportedOperationException` if those that can vote are no quorum", () -> {
            for (int towers = 1; towers <= 7; towers++) {
                Castlequorum game = Scene.ofTowers(towers);
                int half = (1 << towers / 2) - 1;
                Scene.nearOnly(game, 0, 2, half);
                Check.refused("half of " + towers + " near", game, Edge.CANNOT, () -> game.lease(2, 0, 1, 1));
                Scene.nearOnly(game, 0, 2, 2 * half + 1);
                Check.due("one more near", game.lease(2, 0, 1, 1), 1);
                Scene.nearOnly(game, 0, 2, -1);
                Scene.upOnly(game, 0, half);
                Check.refused("half of " + towers + " up", game, Edge.CANNOT, () -> game.lease(2, 0, 2, 1));
                Scene.upOnly(game, 0, -1);
                Check.refused("the others risen, and waiting", game, Edge.CANNOT, () -> game.lease(2, 0, 2, 1));
                game.wait(19);
                Check.refused("the last tick of that", game, Edge.CANNOT, () -> game.lease(2, 0, 2, 1));
                game.wait(1);
                Check.due("the next one", game.lease(2, 0, 2, 1), 21);
                Check.refused("all have a vote of another lord", game, Edge.CANNOT, () -> game.lease(3, 0, 2, 1));
            }
        });
    }

    private static void givingUp() {
        Edge.in("Promise 9");
        Edge.of("Gives a lease up.", () -> {
            Castlequorum game = Scene.unlike();
            game.giveUp(0, 0, 0);
            Check.due("the lease", game.leaseOf(0, 0, 0), 0);
            Check.refused("the gate", game, Edge.NOBODY, () -> game.openFor(0, 0));
            Check.due("a lease at the other castle", game.leaseOf(3, 1, 2), 25);
            Check.due("his purse stays", game.purse(0, 0), 30);
        });
        Edge.of("`lord`: the lord, 0 to 3", () -> Edge.lords(() -> {
            Castlequorum game = Scene.leased();
            game.cut(0, 0, 3, true);
            game.lease(3, 0, 1, 20);
            return game;
        }, (game, lord) -> game.giveUp(lord, 0, lord == 0 ? 0 : 1), 3, 2));
        Edge.of("`castle`: the castle, 0 or 1", () -> Edge.castles(EdgesOfGates::allLeased,
            (game, castle) -> game.giveUp(3, castle, 2), 2, 6));
        Edge.of("`gate`: the gate, 0 to 2", () -> Edge.gates(EdgesOfGates::allLeased,
            (game, gate) -> game.giveUp(3, 0, gate), 3, 2));
        Edge.of("Returns how many votes that held ended.", () -> {
            for (int towers = 1; towers <= 7; towers++) {
                Castlequorum game = Scene.ofTowers(towers);
                game.lease(1, 0, 2, 20);
                Check.due("all of " + towers, game.giveUp(1, 0, 2), towers);
            }
            for (int lord = 0; lord < 4; lord++) {
                Castlequorum game = new Castlequorum();
                game.lease(lord, 0, 0, 20);
                game.lease(lord, 0, 1, 20);
                game.cut(0, 1, (lord + 1) % 4, true);
                Check.due("one is cut off from another lord", game.giveUp(lord, 0, 0), 3);
                game.cut(0, 1, lord, true);
                Check.due("one is cut off from this lord", game.giveUp(lord, 0, 1), 2);
            }
            Castlequorum game = Scene.leased();
            Scene.nearOnly(game, 0, 0, 0);
            Check.due("none is near", game.giveUp(0, 0, 0), 0);
            Castlequorum other = Scene.ofTowers(5);
            other.lease(0, 0, 0, 10);
            other.wait(8);
            other.cut(0, 4, 0, true);
            other.lease(0, 0, 0, 10);
            other.cut(0, 4, 0, false);
            other.wait(1);
            other.fall(0, 0);
            Check.due("one vote at its last tick, one lost", other.giveUp(0, 0, 0), 4);
            Castlequorum late = Scene.ofTowers(5);
            late.lease(0, 0, 0, 10);
            late.wait(8);
            late.cut(0, 4, 0, true);
            late.lease(0, 0, 0, 10);
            late.cut(0, 4, 0, false);
            late.wait(2);
            Check.due("one vote a tick after its last", late.giveUp(0, 0, 0), 4);
        });
        Edge.of(NO_LORD, () -> noSuchLordCastleOrGate(allLeased(), Castlequorum::giveUp));
        Edge.of("Throws `UnsupportedOperationException` if the gate is not open for this lord", () -> {
            Castlequorum game = allLeased();
            Check.refused("open for another", game, Edge.CANNOT, () -> game.giveUp(2, 0, 2));
            Check.due("open for him", game.giveUp(3, 0, 2), 2);
            Check.refused("given up", game, Edge.CANNOT, () -> game.giveUp(3, 0, 2));
            Castlequorum other = Scene.leased();
            Check.refused("never leased", other, Edge.CANNOT, () -> other.giveUp(0, 0, 1));
            other.lease(0, 0, 2, 19);
            other.wait(19);
            Check.due("the last tick of a lease", other.giveUp(0, 0, 0), 3);
            Check.refused("the tick of a lease", other, Edge.CANNOT, () -> other.giveUp(0, 0, 2));
        });
    }

    /** All gates are leased to lord 3; castle 0 has 3 towers, of which one fell ahead of gate 2, castle 1 has 6. */
    private static Castlequorum allLeased() {
        Castlequorum game = new Castlequorum();
        game.build(1, 6, 100);
        game.lease(3, 0, 0, 20);
        game.lease(3, 0, 1, 20);
        game.cut(0, 1, 3, true);
        game.lease(3, 0, 2, 20);
        game.cut(0, 1, 3, false);
        for (int gate = 0; gate < 3; gate++) {
            game.lease(3, 1, gate, 10);
        }
        return game;
    }

    private static void leaseOf() {
        Edge.in("Promise 10");
        Edge.of("Returns to which tick a lease is.", () -> {
            Castlequorum game = new Castlequorum();
            for (int lease = 0; lease < 6; lease++) {
                game.lease(lease % 4, lease / 3, lease % 3, 10 + lease);
            }
            for (int lord = 0; lord < 4; lord++) {
                for (int gate = 0; gate < 6; gate++) {
                    Check.due("lord " + lord + ", gate " + gate % 3 + " of castle " + gate / 3,
                        game.leaseOf(lord, gate / 3, gate % 3), gate % 4 == lord ? 10 + gate : 0);
                }
            }
        });
        Edge.of("`lord`: the lord, 0 to 3",
            () -> Edge.lords(Scene::unlike, (game, lord) -> game.leaseOf(lord, 1, 2), 0, 25));
        Edge.of("`castle`: the castle, 0 or 1",
            () -> Edge.castles(Scene::unlike, (game, castle) -> game.leaseOf(0, castle, 0), 15, 0));
        Edge.of("`gate`: the gate, 0 to 2",
            () -> Edge.gates(Scene::unlike, (game, gate) -> game.leaseOf(3, 1, gate), 0, 25));
        Edge.of("Returns the tick, 0 if there was none since the castle was built, or it was given up.", () -> {
            Castlequorum game = new Castlequorum();
            game.wait(3);
            Check.due("none", game.leaseOf(0, 0, 0), 0);
            game.lease(0, 0, 0, 1);
            Check.due("one for a tick", game.leaseOf(0, 0, 0), 4);
            game.wait(100);
            Check.due("one that has ended", game.leaseOf(0, 0, 0), 4);
            game.lease(1, 0, 0, 2);
            Check.due("when the gate is another's", game.leaseOf(0, 0, 0), 4);
            game.giveUp(1, 0, 0);
            Check.due("one that was given up", game.leaseOf(1, 0, 0), 0);
            Check.due("not by him", game.leaseOf(0, 0, 0), 4);
            game.build(1, 3, 100);
            Check.due("when the other castle was built", game.leaseOf(0, 0, 0), 4);
            game.build(0, 3, 100);
            Check.due("when this castle was built", game.leaseOf(0, 0, 0), 0);
        });
        Edge.of(NO_LORD, () -> noSuchLordCastleOrGate(Scene.unlike(), Castlequorum::leaseOf));
    }

    private static void openFor() {
        Edge.in("Promise 11");
        Edge.of("Returns for whom a gate is open.", () -> {
            Castlequorum game = new Castlequorum();
            for (int lease = 0; lease < 6; lease++) {
                game.lease(lease % 4, lease / 3, lease % 3, 10 + lease);
            }
            for (int gate = 0; gate < 6; gate++) {
                Check.due("gate " + gate % 3 + " of castle " + gate / 3, game.openFor(gate / 3, gate % 3), gate % 4);
            }
        });
        Edge.of("`castle`: the castle, 0 or 1", () -> Edge.castles(() -> {
            Castlequorum game = Scene.leased();
            game.lease(3, 1, 0, 20);
            return game;
        }, (game, castle) -> game.openFor(castle, 0), 0, 3));
        Edge.of("`gate`: the gate, 0 to 2", () -> Edge.gates(() -> {
            Castlequorum game = Scene.leased();
            game.lease(3, 0, 2, 20);
            return game;
        }, (game, gate) -> game.openFor(0, gate), 0, 3));
        Edge.of("Returns the lord.", () -> {
            for (int lord = 0; lord < 4; lord++) {
                Castlequorum game = new Castlequorum();
                game.lease(lord, 0, 0, 1);
                Check.due("the lord", game.openFor(0, 0), lord);
                game.wait(1);
                game.lease(3 - lord, 0, 0, 1);
                Check.due("the next lord", game.openFor(0, 0), 3 - lord);
            }
        });
        Edge.of("Throws `IndexOutOfBoundsException` if there is no such castle or gate", () -> {
            Castlequorum game = Scene.leased();
            Check.refused("castle 2", game, Edge.INDEX, () -> game.openFor(2, 0));
            Check.refused("castle -1", game, Edge.INDEX, () -> game.openFor(-1, 0));
            Check.refused("gate 3", game, Edge.INDEX, () -> game.openFor(0, 3));
            Check.refused("gate -1", game, Edge.INDEX, () -> game.openFor(0, -1));
        });
        Edge.of("Throws `NoSuchElementException` if for nobody", () -> {
            Castlequorum game = Scene.unlike();
            Check.refused("never leased", game, Edge.NOBODY, () -> game.openFor(1, 0));
            game.wait(9);
            Check.due("the last tick of a lease", game.openFor(0, 0), 0);
            game.wait(1);
            Check.refused("its tick", game, Edge.NOBODY, () -> game.openFor(0, 0));
            game.giveUp(3, 1, 2);
            Check.refused("given up", game, Edge.NOBODY, () -> game.openFor(1, 2));
            game.lease(0, 0, 0, 1);
            game.build(0, 3, 100);
            Check.refused("built anew", game, Edge.NOBODY, () -> game.openFor(0, 0));
        });
    }

    /** A call with a castle, a tower and a gate. */
    private static void noSuchCastleTowerOrGate(Castlequorum game, Three three) {
        int[][] rows = {{-1, 0, 0}, {2, 0, 0}, {0, -1, 0}, {0, 3, 0}, {1, 7, 2}, {0, 32, 0}, {0, 0, -1}, {0, 0, 3}};
        for (int[] row : rows) {
            Check.refused("castle " + row[0] + ", tower " + row[1] + ", gate " + row[2], game, Edge.INDEX,
                () -> three.call(game, row[0], row[1], row[2]));
        }
    }

    /** At gate 0 tower 0 votes for lord 0 to the tick 11, towers 1 and 2 for lord 3 to 18; at gate 2 to 12 and 19. */
    private static Castlequorum voted() {
        Castlequorum game = Scene.ofTowers(3);
        for (int gate = 0; gate < 3; gate += 2) {
            game.lease(0, 0, gate, 3);
        }
        game.wait(1);
        Scene.nearOnly(game, 0, 0, 0b011);
        for (int gate = 0; gate < 3; gate += 2) {
            game.lease(0, 0, gate, gate == 0 ? 10 : 11);
        }
        game.cut(0, 0, 0, true);
        game.giveUp(0, 0, 0);
        game.giveUp(0, 0, 2);
        game.wait(2);
        for (int gate = 0; gate < 3; gate += 2) {
            game.lease(3, 0, gate, gate == 0 ? 15 : 16);
        }
        return game;
    }

    private static void voteOf() {
        Edge.in("Promise 12");
        Edge.of("Returns for whom a vote of a tower holds.", () -> {
            Castlequorum game = voted();
            Check.due("the far one, left over from a lease that was given up", game.voteOf(0, 0, 0), 0);
            Check.due("the one that was near then", game.voteOf(0, 1, 0), 3);
            Check.due("the one whose vote had ended", game.voteOf(0, 2, 0), 3);
        });
        Edge.of("`castle`: the castle, 0 or 1", () -> Edge.castles(() -> {
            Castlequorum game = Scene.leased();
            game.lease(3, 1, 0, 20);
            return game;
        }, (game, castle) -> game.voteOf(castle, 0, 0), 0, 3));
        Edge.of("`tower`: the tower", () -> {
            Edge.bounds(EdgesOfGates::voted, (game, tower) -> game.voteOf(0, tower, 0), 0, 0, 2, 3, Edge.INDEX);
            Edge.bounds(Scene::unlike, (game, tower) -> game.voteOf(1, tower, 2), 0, 3, 6, 3, Edge.INDEX);
        });
        Edge.of("`gate`: the gate, 0 to 2", () -> Edge.gates(() -> {
            Castlequorum game = Scene.leased();
            game.lease(3, 0, 2, 20);
            return game;
        }, (game, gate) -> game.voteOf(0, 0, gate), 0, 3));
        Edge.of("Returns the lord.", () -> {
            for (int lord = 0; lord < 4; lord++) {
                Castlequorum game = Scene.ofTowers(7);
                game.lease(lord, 0, 1, 1);
                for (int tower = 0; tower < 7; tower++) {
                    Check.due("tower " + tower, game.voteOf(0, tower, 1), lord);
                }
            }
        });
        Edge.of(NO_TOWER, () -> noSuchCastleTowerOrGate(Scene.unlike(), Castlequorum::voteOf));
        Edge.of("Throws `NoSuchElementException` if for nobody", () -> noVotes((game, castle, tower, gate) ->
            Check.refused("voteOf", game, Edge.NOBODY, () -> game.voteOf(castle, tower, gate))));
    }

    private static void voteTill() {
        Edge.in("Promise 13");
        Edge.of("Returns before which tick a vote that holds does so.", () -> {
            Castlequorum game = voted();
            Check.due("the far one, left over", game.voteTill(0, 0, 0), 11);
            Check.due("the one that was near then", game.voteTill(0, 1, 0), 18);
            game.wait(7);
            Check.due("its last tick", game.voteTill(0, 0, 0), 11);
            game.wait(1);
            Check.refused("its tick", game, Edge.NOBODY, () -> game.voteTill(0, 0, 0));
            Check.due("the others", game.voteTill(0, 1, 0), 18);
        });
        Edge.of("`castle`: the castle, 0 or 1", () -> Edge.castles(() -> {
            Castlequorum game = Scene.leased();
            game.lease(3, 1, 0, 19);
            return game;
        }, (game, castle) -> game.voteTill(castle, 0, 0), 20, 19));
        Edge.of("`tower`: the tower", () -> {
            Edge.bounds(EdgesOfGates::voted, (game, tower) -> game.voteTill(0, tower, 0), 0, 11, 2, 18, Edge.INDEX);
            Edge.bounds(Scene::unlike, (game, tower) -> game.voteTill(1, tower, 2), 0, 25, 6, 25, Edge.INDEX);
        });
        Edge.of("`gate`: the gate, 0 to 2",
            () -> Edge.gates(EdgesOfGates::voted, (game, gate) -> game.voteTill(0, 0, gate), 11, 12));
        Edge.of("Returns the tick.", () -> {
            for (int ticks = 1; ticks <= 20; ticks++) {
                Castlequorum game = new Castlequorum();
                Scene.wait(game, 1000);
                game.lease(1, 1, 1, ticks);
                Check.due("a lease for " + ticks, game.voteTill(1, 1, 1), 1000 + ticks);
            }
        });
        Edge.of(NO_TOWER, () -> noSuchCastleTowerOrGate(Scene.unlike(), Castlequorum::voteTill));
        Edge.of("Throws `NoSuchElementException` if none holds", () -> noVotes((game, castle, tower, gate) ->
            Check.refused("voteTill", game, Edge.NOBODY, () -> game.voteTill(castle, tower, gate))));
    }

    private interface NoVote {
        void check(Castlequorum game, int castle, int tower, int gate);
    }

    private static void noVotes(NoVote none) {
        Castlequorum game = Scene.unlike();
        none.check(game, 0, 0, 1);
        none.check(game, 0, 0, 2);
        none.check(game, 1, 0, 0);
        game.fall(0, 0);
        none.check(game, 0, 0, 0);
        game.rise(0, 0);
        none.check(game, 0, 0, 0);
        game.burn(0, 1);
        none.check(game, 0, 1, 0);
        game.wait(9);
        Check.due("the last tick of a vote", game.voteTill(0, 2, 0), 15);
        game.wait(1);
        none.check(game, 0, 2, 0);
        game.giveUp(3, 1, 2);
        none.check(game, 1, 6, 2);
        game.wait(20);
        game.lease(0, 0, 0, 20);
        game.build(0, 3, 100);
        none.check(game, 0, 2, 0);
    }

    private static void near() {
        Edge.in("Promise 14");
        Edge.of("Returns how many towers are near a lord.", () -> {
            Castlequorum game = Scene.ofTowers(3);
            game.cut(0, 0, 2, true);
            game.fall(0, 1);
            Check.due("one cut, one down, one near", game.near(2, 0), 1);
            game.rise(0, 1);
            Check.due("one cut, one waiting, one near", game.near(2, 0), 2);
        });
        Edge.of("`lord`: the lord, 0 to 3", () -> Edge.lords(() -> {
            Castlequorum game = new Castlequorum();
            game.cut(0, 0, 3, true);
            return game;
        }, (game, lord) -> game.near(lord, 0), 3, 2));
        Edge.of("`castle`: the castle, 0 or 1",
            () -> Edge.castles(Scene::unlike, (game, castle) -> game.near(0, castle), 3, 7));
        Edge.of("Returns their number.", () -> {
            for (int mask = 0; mask < 128; mask++) {
                Castlequorum game = Scene.ofTowers(7);
                Scene.upOnly(game, 0, mask);
                Scene.nearOnly(game, 0, 1, 0b1010101);
                Check.due("up are " + mask, game.near(0, 0), Integer.bitCount(mask));
                Check.due("up and not cut", game.near(1, 0), Integer.bitCount(mask & 0b1010101));
            }
        });
        Edge.of("Throws `IndexOutOfBoundsException` if there is no such castle or lord", () -> {
            Castlequorum game = Scene.unlike();
            Check.refused("lord 4", game, Edge.INDEX, () -> game.near(4, 0));
            Check.refused("lord -1", game, Edge.INDEX, () -> game.near(-1, 0));
            Check.refused("castle 2", game, Edge.INDEX, () -> game.near(0, 2));
            Check.refused("castle -1", game, Edge.INDEX, () -> game.near(0, -1));
        });
    }

    private static void tower() {
        Edge.in("Promise 15");
        Edge.of("Returns how a tower is.", () -> {
            Castlequorum game = new Castlequorum();
            game.fall(1, 0);
            game.fall(1, 1);
            game.rise(1, 1);
            Check.due("one down", game.tower(1, 0), 'd');
            Check.due("one waiting", game.tower(1, 1), 'w');
            Check.due("one up", game.tower(1, 2), 'u');
        });
        Edge.of("`castle`: the castle, 0 or 1", () -> Edge.castles(() -> {
            Castlequorum game = new Castlequorum();
            game.fall(1, 0);
            return game;
        }, (game, castle) -> game.tower(castle, 0), 'u', 'd'));
        Edge.of("`tower`: the tower", () -> {
            for (int towers = 2; towers <= 7; towers++) {
                int of = towers;
                Edge.bounds(() -> {
                    Castlequorum game = Scene.ofTowers(of);
                    game.fall(0, of - 1);
                    return game;
                }, (game, tower) -> game.tower(0, tower), 0, 'u', towers - 1, 'd', Edge.INDEX);
            }
            Edge.bounds(() -> Scene.ofTowers(1), (game, tower) -> game.tower(0, tower), 0, 'u', 0, 'u', Edge.INDEX);
        });
        Edge.of("Returns 'd' down, 'w' up and waiting, 'u' up.", () -> {
            Castlequorum game = new Castlequorum();
            Scene.wait(game, 40000);
            Check.due("at first", game.tower(0, 1), 'u');
            game.burn(0, 1);
            Check.due("burnt", game.tower(0, 1), 'd');
            game.wait(100);
            Check.due("burnt long ago", game.tower(0, 1), 'd');
            game.rise(0, 1);
            Check.due("risen now", game.tower(0, 1), 'w');
            game.wait(19);
            Check.due("risen 19 ticks ago", game.tower(0, 1), 'w');
            game.fall(0, 1);
            Check.due("fallen while it waited", game.tower(0, 1), 'd');
            game.rise(0, 1);
            game.wait(1);
            Check.due("risen a tick ago", game.tower(0, 1), 'w');
            game.wait(19);
            Check.due("risen 20 ticks ago", game.tower(0, 1), 'u');
            for (int lord = 0; lord < 4; lord++) {
                game.cut(0, 1, lord, true);
            }
            Check.due("cut off from all", game.tower(0, 1), 'u');
        });
        Edge.of("Throws `IndexOutOfBoundsException` if there is no such castle or tower", () -> {
            Castlequorum game = Scene.unlike();
            Check.refused("castle 2", game, Edge.INDEX, () -> game.tower(2, 0));
            Check.refused("castle -1", game, Edge.INDEX, () -> game.tower(-1, 0));
            Check.refused("a tower that the other castle alone has", game, Edge.INDEX, () -> game.tower(0, 3));
            Check.refused("tower 7", game, Edge.INDEX, () -> game.tower(1, 7));
            Check.refused("tower 32", game, Edge.INDEX, () -> game.tower(1, 32));
        });
    }
}
