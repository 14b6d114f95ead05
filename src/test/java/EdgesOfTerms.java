/** The sentences ahead of the promises: castles, towers and leases here; the others in the classes that this one calls. */
final class EdgesOfTerms {
    private EdgesOfTerms() {
    }

    static void play() {
        lifetime();
        Edge.in("Terms");
        wholes();
        castles();
        buildingAnew();
        towers();
        leases();
        leaseTicks();
        TermsOfEntries.play();
        TermsOfSights.play();
        TermsOfTruces.play();
        TermsOfExceptions.play();
        for (String calls : new String[] {
            "`build`, `wait`, `fall`, `burn`, `rise`, `cut` the interface says: castles and towers.",
            "`lease`, `giveUp`, `leaseOf`, `openFor`, `voteOf`, `voteTill`, `near`, `tower` the interface says: gates.",
            "`order`, `spread`, `strike`, `entries`, `counting`, `entryOf`, `amountOf`, `isCommitted`, `has`, `gold`,"
                + " `purse` the interface says: entries.",
            "`scout`, `read`, `raid`, `won` the interface says: sights and raids.",
            "`truce`, `prepare`, `decide`, `settle`, `truceOf` the interface says: truces.",
            "`time`, `checksum`, `upShare`, `meanEntries`, `isSound` the interface says: figures."}) {
            Edge.nothingIn("Ahead of the calls " + calls);
        }
    }

    private static void lifetime() {
        Edge.in("What it is");
        Edge.nothingIn("A game of two castles that are besieged: gates that are opened by leases of a quorum of towers,"
            + " towers that fall, burn, rise and wait, links that are cut, orders that hang until a quorum has them,"
            + " scouts whose sights grow old, raids that win only by what a quorum still holds, and truces over both"
            + " castles that are prepared, decided and settled.");
        Edge.of("An object is used for at most 512 calls after it has been made; what later calls answer is free.", () -> {
            Castlequorum game = new Castlequorum();
            for (int call = 1; call <= 508; call++) {
                Check.due("wait, call " + call, game.wait(100), 100 * call);
            }
            Check.due("lease, call 509", game.lease(2, 1, 1, 20), 50820);
            Check.due("order, call 510", game.order(2, 1, 1, false, 100), 0);
            Check.due("scout, call 511", game.scout(2, 1), 0);
            Check.due("raid, call 512", game.raid(0, 1), 'w');
        });
    }

    private static void wholes() {
        Edge.of("No gate is open for two lords, and all gold and purses are told anew from entries that count.", () -> {
            Castlequorum game = Scene.leased();
            for (int tower = 0; tower < 3; tower++) {
                game.fall(0, tower);
                game.rise(0, tower);
            }
            game.wait(19);
            Check.refused("a lease of what has risen, at the last tick of the first one", game, Edge.CANNOT,
                () -> game.lease(1, 0, 0, 20));
            Check.due("open for the first lord", game.openFor(0, 0), 0);
            game.wait(1);
            Check.due("a lease at the next tick", game.lease(1, 0, 0, 20), 40);
            Check.due("open for the second lord", game.openFor(0, 0), 1);
            Check.due("the first lord's lease has ended", game.leaseOf(0, 0, 0) <= game.time(), true);
            Check.due("sound", game.isSound(), true);
            Castlequorum other = Scene.oneNear();
            other.order(0, 0, 0, false, 30);
            Check.due("gold without what hangs", other.gold(0, false), 100);
            other.spread(0);
            Check.due("gold told anew", other.gold(0, false), 70);
            Check.due("the purse told anew", other.purse(0, 0), 30);
        });
        Edge.nothingIn("The class is not thread-safe. Castles.");
    }

    private static void castles() {
        Edge.of("There are the castles 0 and 1, each with 1 to 7 towers, numbered from 0, three gates, 0 to 2, and gold;",
            () -> {
                for (int castle = 0; castle < 2; castle++) {
                    for (int towers = 1; towers <= 7; towers++) {
                        Castlequorum game = new Castlequorum();
                        game.build(castle, towers, 10 * towers);
                        countTowersAndGates(game, castle, towers);
                        Check.due("its gold", game.gold(castle, false), 10 * towers);
                    }
                }
                Castlequorum game = new Castlequorum();
                Check.refused("0 towers", game, Edge.ARGUMENT, () -> game.build(0, 0, 1));
                Check.refused("8 towers", game, Edge.ARGUMENT, () -> game.build(0, 8, 1));
                Check.refused("castle 2", game, Edge.INDEX, () -> game.gold(2, false));
                Check.refused("castle -1", game, Edge.INDEX, () -> game.gold(-1, false));
            });
        Edge.of("at first each has 3 towers and the gold 100.", () -> {
            for (int castle = 0; castle < 2; castle++) {
                Castlequorum game = new Castlequorum();
                Check.due("gold", game.gold(castle, false), 100);
                countTowersAndGates(game, castle, 3);
            }
        });
        Edge.of("There are four lords, 0 to 3, each with a purse at each castle, 0 at first.", () -> {
            Castlequorum game = new Castlequorum();
            for (int lord = 0; lord < 4; lord++) {
                Check.due("the purse at first", game.purse(lord, 0) + game.purse(lord, 1), 0);
            }
            for (int purse = 0; purse < 8; purse++) {
                game.lease(purse % 4, purse / 4, 0, 1);
                game.order(purse % 4, purse / 4, 0, false, 1 + purse);
                game.wait(1);
            }
            for (int purse = 0; purse < 8; purse++) {
                Check.due("a purse of its own", game.purse(purse % 4, purse / 4), 1 + purse);
            }
            Check.refused("lord 4", game, Edge.INDEX, () -> game.purse(4, 0));
            Check.refused("lord -1", game, Edge.INDEX, () -> game.purse(-1, 0));
        });
        Edge.of("A quorum of a castle is more than half of its towers.", () -> {
            for (int towers = 1; towers <= 7; towers++) {
                quorums(towers, towers / 2, false);
                quorums(towers, towers / 2 + 1, true);
            }
        });
        Edge.of("Time goes by ticks, from 0.", () -> {
            Castlequorum game = new Castlequorum();
            Check.due("the first tick", game.time(), 0);
            Check.due("the next one", game.wait(1), 1);
        });
    }

    private static void countTowersAndGates(Castlequorum game, int castle, int towers) {
        Check.due("tower 0", game.tower(castle, 0), 'u');
        Check.due("the last tower", game.tower(castle, towers - 1), 'u');
        Check.refused("the one after the last tower", game, Edge.INDEX, () -> game.tower(castle, towers));
        Check.refused("tower -1", game, Edge.INDEX, () -> game.tower(castle, -1));
        for (int gate = 0; gate < 3; gate++) {
            game.lease(gate, castle, gate, 1);
            Check.due("gate " + gate, game.openFor(castle, gate), gate);
        }
        Check.refused("gate 3", game, Edge.INDEX, () -> game.openFor(castle, 3));
        Check.refused("gate -1", game, Edge.INDEX, () -> game.openFor(castle, -1));
    }

    /** All that needs a quorum, with so many of so many towers. */
    private static void quorums(int towers, int of, boolean isQuorum) {
        String share = of + " of " + towers;
        int mask = (1 << of) - 1;
        Castlequorum game = Scene.ofTowers(towers);
        game.lease(0, 0, 0, 20);
        game.truce(1, 1);
        game.scout(0, 0);
        Scene.nearOnly(game, 0, 0, mask);
        Check.due("a lease by " + share, !Picture.ask(game, "lease", 0, 0, 1, 1).endsWith("Exception"), isQuorum);
        Check.due("a scout by " + share, !Picture.ask(game, "scout", 0, 0).endsWith("Exception"), isQuorum);
        Check.due("a raid by " + share, game.raid(0, 0), isQuorum ? 'w' : 'q');
        Check.due("a truce prepared by " + share, !Picture.ask(game, "prepare", 0, 0, 0).endsWith("Exception"), isQuorum);
        if (of > 0) {
            int entry = game.order(0, 0, 0, false, 1);
            Check.due("an entry at " + share, game.isCommitted(0, entry), isQuorum);
        }
        Castlequorum other = Scene.ofTowers(towers);
        other.truce(1, 1);
        other.prepare(0, 0, 0);
        other.decide(0, false);
        Scene.upOnly(other, 0, mask);
        Check.due("a truce settled by " + share, !Picture.ask(other, "settle", 0).endsWith("Exception"), isQuorum);
    }

    /** Castle 0 has what a castle can have; no truce is prepared and not settled there. */
    private static Castlequorum wornOut() {
        Castlequorum game = new Castlequorum();
        game.build(0, 5, 300);
        game.truce(0, 10);
        game.prepare(0, 0, 0);
        game.prepare(0, 1, 0);
        game.decide(0, true);
        game.settle(0);
        for (int gate = 0; gate < 3; gate++) {
            game.lease(gate, 0, gate, 20);
            game.order(gate, 0, gate, false, 10);
        }
        game.scout(1, 0);
        game.scout(1, 1);
        game.raid(0, 1);
        for (int lord = 0; lord < 4; lord++) {
            game.cut(0, lord, lord, true);
        }
        game.fall(0, 0);
        game.rise(0, 0);
        game.fall(0, 1);
        game.cut(0, 1, 3, true);
        game.burn(0, 2);
        game.order(0, 0, 0, false, 1);
        return game;
    }

    private static void buildingAnew() {
        Edge.of("To build a castle anew leaves it without leases, cuts, entries and purses, all its towers up, as at first;",
            () -> {
                Castlequorum game = wornOut();
                game.build(0, 3, 100);
                Castlequorum fresh = new Castlequorum();
                Check.due("the castle", Picture.ofCastle(game, 0), Picture.ofCastle(fresh, 0));
                for (int tower = 0; tower < 3; tower++) {
                    for (int lord = 0; lord < 4; lord++) {
                        Check.due("a link was cut", game.cut(0, tower, lord, false), false);
                    }
                }
                for (int gate = 0; gate < 3; gate++) {
                    Check.due("a lease of another lord", game.lease(3, 0, gate, 1), 1);
                    Check.due("a vote of what fell", game.voteOf(0, 1, gate), 3);
                    Check.due("a vote of what waited", game.voteOf(0, 0, gate), 3);
                }
                Scene.nearOnly(game, 0, 3, 0b010);
                game.order(3, 0, 0, false, 1);
                Check.due("an entry at a tower that had one of this number", game.has(0, 0, 0), false);
                Check.due("it is not committed", game.isCommitted(0, 0), false);
            });
        Edge.of("sights of it are too old from then on;", () -> {
            Castlequorum game = Scene.leased();
            game.scout(0, 0);
            game.scout(0, 1);
            game.build(0, 3, 100);
            game.lease(0, 0, 0, 20);
            Check.refused("a sight of the same tick", game, Edge.CANNOT, () -> game.read(0, false));
            Check.due("a raid by it", game.raid(0, 0), 'o');
            Check.due("a sight of the other castle", game.read(1, false), 100);
            game.scout(0, 0);
            Check.due("a sight since then", game.read(2, false), 100);
            Check.due("a raid by it", game.raid(2, 0), 'w');
        });
        Edge.of("truces are as they are.", () -> {
            Castlequorum game = new Castlequorum();
            game.truce(0, 10);
            game.truce(1, 10);
            game.truce(1, 10);
            game.truce(0, 10);
            game.prepare(0, 0, 0);
            game.prepare(0, 1, 0);
            game.decide(0, true);
            game.settle(0);
            game.settle(1);
            game.prepare(1, 1, 0);
            game.decide(1, false);
            game.settle(1);
            game.prepare(2, 1, 0);
            game.decide(3, false);
            game.build(0, 3, 100);
            Check.due("one that was settled as done", game.truceOf(0, 0), 'd');
            Check.refused("it prepared again", game, Edge.CANNOT, () -> game.prepare(0, 0, 0));
            Check.due("one that was settled as aborted at the other castle", game.truceOf(1, 1), 'a');
            Check.due("one that is prepared at the other castle", game.truceOf(2, 1), 'p');
            Check.refused("one that is decided, prepared", game, Edge.CANNOT, () -> game.prepare(3, 0, 0));
            Check.due("one that is not decided, prepared", game.prepare(2, 0, 0), 0);
            Check.due("it decided", game.decide(2, true), 2);
        });
    }

    private static void towers() {
        Edge.of("Towers. A tower is up or down.", () -> {
            Castlequorum game = Scene.ofTowers(7);
            for (int tower = 0; tower < 7; tower++) {
                Check.due("fall of one that is up", game.fall(0, tower), true);
                Check.due("how many are up then", game.near(0, 0), 6 - tower);
            }
            for (int tower = 0; tower < 7; tower++) {
                Check.due("rise of one that is down", game.rise(0, tower), true);
                Check.due("how many are up then", game.near(0, 0), 1 + tower);
            }
        });
        Edge.of("One that falls, or burns, is down, and loses all its votes; its entries stay, but one that burns loses"
            + " these, too.", () -> {
                Castlequorum game = new Castlequorum();
                for (int gate = 0; gate < 3; gate++) {
                    game.lease(gate, 0, gate, 20);
                    game.order(gate, 0, gate, false, 10);
                }
                game.fall(0, 0);
                game.burn(0, 1);
                Check.due("the fallen one", game.tower(0, 0), 'd');
                Check.due("the burnt one", game.tower(0, 1), 'd');
                game.rise(0, 0);
                game.rise(0, 1);
                for (int gate = 0; gate < 3; gate++) {
                    int door = gate;
                    Check.refused("a vote of the fallen one", game, Edge.NOBODY, () -> game.voteOf(0, 0, door));
                    Check.refused("a vote of the burnt one", game, Edge.NOBODY, () -> game.voteOf(0, 1, door));
                    Check.due("a vote of the third one", game.voteOf(0, 2, gate), gate);
                    Check.due("an entry of the fallen one", game.has(0, 0, gate), true);
                    Check.due("an entry of the burnt one", game.has(0, 1, gate), false);
                    Check.due("an entry of the third one", game.has(0, 2, gate), true);
                }
                game.fall(0, 0);
                game.burn(0, 0);
                Check.due("an entry of a fallen one that burnt", game.has(0, 0, 0), false);
            });
        Edge.of("One that rises is up, and waits for 20 ticks: it votes for nobody before the tick that is 20 ticks later.",
            () -> {
                Castlequorum game = Scene.ofTowers(1);
                game.wait(3);
                game.fall(0, 0);
                game.wait(30);
                game.rise(0, 0);
                Check.due("the tick at which it rises", game.tower(0, 0), 'w');
                Check.due("it is near", game.near(0, 0), 1);
                Check.refused("its vote", game, Edge.CANNOT, () -> game.lease(0, 0, 0, 20));
                game.wait(19);
                Check.due("19 ticks later", game.tower(0, 0), 'w');
                Check.refused("its vote then", game, Edge.CANNOT, () -> game.lease(0, 0, 0, 20));
                game.wait(1);
                Check.due("20 ticks later", game.tower(0, 0), 'u');
                Check.due("its vote then", game.lease(0, 0, 0, 20), 73);
            });
        Edge.of("The link of a lord to a tower can be cut; a tower is near a lord if it is up and the link is not cut.", () -> {
            for (int lord = 0; lord < 4; lord++) {
                Castlequorum game = Scene.ofTowers(7);
                for (int tower = 0; tower < 7; tower++) {
                    game.cut(0, tower, lord, true);
                    Check.due("near the lord", game.near(lord, 0), 6 - tower);
                    Check.due("near another lord", game.near((lord + 1) % 4, 0), 7);
                }
                game.fall(0, 3);
                game.cut(0, 3, lord, false);
                game.cut(0, 4, lord, false);
                Check.due("near: not cut, and not down", game.near(lord, 0), 1);
                game.rise(0, 3);
                Check.due("near when it has risen", game.near(lord, 0), 2);
            }
        });
    }

    private static void leases() {
        Edge.of("Leases. A lord asks for a gate for 1 to 20 ticks.", () -> Edge.bounds(Scene::unlike,
            (game, ticks) -> game.lease(1, 0, 1, ticks), 1, 6, 20, 25, Edge.ARGUMENT));
        Edge.of("A vote of a tower for a gate is for a lord, and holds before the tick to which it was given.", () -> {
            for (int ticks : new int[] {1, 2, 20}) {
                Castlequorum game = new Castlequorum();
                game.lease(2, 0, 1, ticks);
                game.cut(0, 0, 2, true);
                if (ticks > 1) {
                    game.wait(ticks - 1);
                }
                Check.due("the last tick", game.voteOf(0, 0, 1), 2);
                Check.due("till when", game.voteTill(0, 0, 1), ticks);
                game.wait(1);
                Check.refused("the tick to which it was given", game, Edge.NOBODY, () -> game.voteOf(0, 0, 1));
                Check.refused("till when", game, Edge.NOBODY, () -> game.voteTill(0, 0, 1));
            }
        });
        Edge.of("A tower can vote for a lord if it is near, does not wait, and has no vote for this gate, of another lord,"
            + " that holds.", () -> {
                Castlequorum game = Scene.ofTowers(7);
                Scene.nearOnly(game, 0, 1, 0b0000111);
                Scene.nearOnly(game, 0, 0, 0b1111000);
                Check.due("the four that are near lord 0", game.lease(0, 0, 0, 10), 10);
                Scene.nearOnly(game, 0, 1, 0b0001111);
                Check.refused("three, and one that has voted for another", game, Edge.CANNOT, () -> game.lease(1, 0, 0, 5));
                Check.due("for another gate that vote is none", game.lease(1, 0, 1, 5), 5);
                game.wait(9);
                Check.refused("the last tick of that vote", game, Edge.CANNOT, () -> game.lease(1, 0, 0, 5));
                game.wait(1);
                Check.due("when that vote holds no more", game.lease(1, 0, 0, 5), 15);
                Check.refused("a vote of one that is far", game, Edge.NOBODY, () -> game.voteOf(0, 4, 0));
                Check.due("a vote for the same lord hinders nothing", game.lease(1, 0, 0, 9), 19);
                game.fall(0, 0);
                Check.refused("three of seven", game, Edge.CANNOT, () -> game.lease(1, 0, 0, 9));
                game.rise(0, 0);
                Check.refused("three, and one that waits", game, Edge.CANNOT, () -> game.lease(1, 0, 0, 9));
            });
        Edge.of("If those that can vote are a quorum, all of them vote for this lord to the tick that is so many ticks from"
            + " now, or to that of their vote for this lord, whichever is later;", () -> {
                Castlequorum game = Scene.ofTowers(4);
                game.wait(2);
                game.fall(0, 3);
                game.lease(0, 0, 0, 10);
                for (int tower = 0; tower < 3; tower++) {
                    Check.due("all three of a quorum vote", game.voteOf(0, tower, 0), 0);
                    Check.due("to the tick", game.voteTill(0, tower, 0), 12);
                }
                game.lease(0, 0, 0, 9);
                Check.due("the vote's own tick is later", game.voteTill(0, 0, 0), 12);
                game.lease(0, 0, 0, 10);
                Check.due("neither is later", game.voteTill(0, 0, 0), 12);
                game.cut(0, 0, 0, true);
                Check.refused("two of four", game, Edge.CANNOT, () -> game.lease(0, 0, 0, 20));
                game.cut(0, 0, 0, false);
                game.lease(0, 0, 0, 11);
                Check.due("the tick from now is later", game.voteTill(0, 0, 0), 13);
                Castlequorum apart = Scene.ofTowers(4);
                Scene.nearOnly(apart, 0, 0, 0b0111);
                apart.lease(0, 0, 0, 10);
                Scene.nearOnly(apart, 0, 0, 0b1110);
                Check.due("the lease is where it was", apart.lease(0, 0, 0, 4), 10);
                Check.due("a vote of one that had none", apart.voteTill(0, 3, 0), 4);
                Check.due("a vote of one that had a later one", apart.voteTill(0, 2, 0), 10);
                apart.lease(0, 0, 0, 12);
                Check.due("a vote of one that is far now", apart.voteTill(0, 0, 0), 10);
            });
    }

    private static void leaseTicks() {
        Edge.of("and this lord's lease is to that tick, or to where it was, whichever is later.", () -> {
            Castlequorum game = Scene.unlike();
            Check.due("where it was is later by one", game.lease(0, 0, 0, 9), 15);
            Check.due("neither is later", game.lease(0, 0, 0, 10), 15);
            Check.due("that tick is later by one", game.lease(0, 0, 0, 11), 16);
            Check.due("leaseOf", game.leaseOf(0, 0, 0), 16);
            game.wait(50);
            Check.due("later than one that ended", game.lease(0, 0, 0, 1), 56);
            game.wait(1);
            for (int lord = 0; lord < 4; lord++) {
                Check.due("a lease of lord " + lord, game.lease(lord, 0, 0, 2), 58 + 2 * lord);
                Check.due("where it was", game.lease(lord, 0, 0, 1), 58 + 2 * lord);
                game.wait(2);
            }
            Castlequorum left = Scene.leased();
            left.cut(0, 0, 0, true);
            left.giveUp(0, 0, 0);
            left.cut(0, 0, 0, false);
            Check.due("a later vote, left over, does not move it", left.lease(0, 0, 0, 3), 3);
            Check.due("that vote", left.voteTill(0, 0, 0), 20);
        });
        Edge.of("The gate is open for a lord before the tick of this lease.", () -> {
            Castlequorum game = new Castlequorum();
            game.lease(3, 1, 2, 1);
            Check.due("the only tick of a lease for 1", game.openFor(1, 2), 3);
            game.wait(1);
            Check.refused("its tick", game, Edge.NOBODY, () -> game.openFor(1, 2));
            game.lease(3, 1, 2, 20);
            Scene.upOnly(game, 1, 0);
            Check.due("when all towers have fallen", game.openFor(1, 2), 3);
            Scene.upOnly(game, 1, -1);
            game.wait(19);
            Check.due("the last tick of a lease for 20", game.openFor(1, 2), 3);
            Check.due("an order then", game.order(3, 1, 2, false, 1), 0);
            game.wait(1);
            Check.refused("its tick", game, Edge.NOBODY, () -> game.openFor(1, 2));
            Check.refused("an order then", game, Edge.CANNOT, () -> game.order(3, 1, 2, false, 1));
            Check.refused("to give it up then", game, Edge.CANNOT, () -> game.giveUp(3, 1, 2));
        });
        Edge.of("To give a lease up ends it, and all votes of this lord for this gate of towers that are near.", () -> {
            Castlequorum game = new Castlequorum();
            game.lease(0, 0, 0, 20);
            game.lease(0, 0, 1, 20);
            game.lease(0, 1, 0, 20);
            game.cut(0, 2, 0, true);
            Check.due("the votes that end", game.giveUp(0, 0, 0), 2);
            Check.refused("the gate", game, Edge.NOBODY, () -> game.openFor(0, 0));
            Check.refused("a vote of one that is near", game, Edge.NOBODY, () -> game.voteOf(0, 0, 0));
            Check.refused("a vote of another that is near", game, Edge.NOBODY, () -> game.voteOf(0, 1, 0));
            Check.due("a vote of one that is far", game.voteTill(0, 2, 0), 20);
            Check.due("a vote for another gate", game.voteTill(0, 0, 1), 20);
            Check.due("the other gate", game.openFor(0, 1), 0);
            Check.due("a vote at the other castle", game.voteTill(1, 0, 0), 20);
            Check.due("a lease of another lord", game.lease(1, 0, 0, 5), 5);
            Check.due("that far vote is kept", game.voteOf(0, 2, 0), 0);
            Check.due("his votes are not ended by another lord's", game.giveUp(1, 0, 0), 2);
            Check.due("that far vote is kept", game.voteTill(0, 2, 0), 20);
        });
    }
}
