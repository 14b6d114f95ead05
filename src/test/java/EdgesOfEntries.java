/** The sentences of promises 16 to 26: order, spread, strike, and what can be asked of entries, gold and purses. */
final class EdgesOfEntries {
    private static final String NO_CASTLE = "Throws `IndexOutOfBoundsException` if there is no such castle";
    private static final String NO_ENTRY = "Throws `IndexOutOfBoundsException` if there is no such castle or entry";
    private static final String CASTLE = "`castle`: the castle, 0 or 1";

    private EdgesOfEntries() {
    }

    static void play() {
        orderNumbers();
        orderAnswers();
        orderRefusals();
        spreading();
        striking();
        entries();
        counting();
        entryOf();
        amountOf();
        isCommitted();
        has();
        gold();
        purse();
    }

    private static void noSuchCastle(Edge.Open open) {
        Castlequorum game = Scene.unlike();
        for (int castle : new int[] {-1, 2, 3, Integer.MIN_VALUE, Integer.MAX_VALUE}) {
            Check.refused("castle " + castle, game, Edge.INDEX, () -> open.call(game, castle));
        }
    }

    /** A call with a castle and an entry. */
    private interface Two {
        void call(Castlequorum game, int castle, int entry);
    }

    private static void noSuchCastleOrEntry(Two two) {
        Castlequorum game = Scene.unlike();
        int[][] rows = {{-1, 0}, {2, 0}, {0, -1}, {0, 1}, {1, 3}, {0, 59}, {0, 60}, {1, Integer.MAX_VALUE}, {1, Integer.MIN_VALUE}};
        for (int[] row : rows) {
            Check.refused("castle " + row[0] + ", entry " + row[1], game, Edge.INDEX, () -> two.call(game, row[0], row[1]));
        }
        Castlequorum fresh = new Castlequorum();
        Check.refused("entry 0 of an empty row", fresh, Edge.INDEX, () -> two.call(fresh, 0, 0));
        Castlequorum full = Scene.filled(60);
        two.call(full, 0, 59);
        Check.refused("entry 60 of a full row", full, Edge.INDEX, () -> two.call(full, 0, 60));
        Check.refused("entry 0 of the other castle", full, Edge.INDEX, () -> two.call(full, 1, 0));
        full.build(0, 3, 100);
        Check.refused("entry 0 when it is built anew", full, Edge.INDEX, () -> two.call(full, 0, 0));
    }

    private static void orderNumbers() {
        Edge.in("Promise 16");
        Edge.of("Tells an order.", () -> {
            Castlequorum game = Scene.unlike();
            game.order(0, 0, 0, false, 70);
            Check.due("the entry", game.entryOf(0, 1), 'o');
            Check.due("its amount", game.amountOf(0, 1), 70);
            Check.due("gold", game.gold(0, false), 0);
            Check.due("the purse", game.purse(0, 0), 100);
        });
        Edge.of("`lord`: the lord, 0 to 3", () -> Edge.lords(() -> {
            Castlequorum game = Scene.leased();
            game.lease(3, 0, 1, 20);
            return game;
        }, (game, lord) -> {
            game.order(lord, 0, lord == 0 ? 0 : 1, false, 9);
            return game.purse(lord, 0);
        }, 9, 9));
        Edge.of(CASTLE, () -> Edge.castles(() -> {
            Castlequorum game = Scene.filled(4);
            game.lease(0, 1, 0, 20);
            return game;
        }, (game, castle) -> game.order(0, castle, 0, false, 1), 4, 0));
        Edge.of("`gate`: the gate, 0 to 2", () -> Edge.gates(() -> {
            Castlequorum game = Scene.leased();
            game.lease(0, 0, 2, 20);
            return game;
        }, (game, gate) -> game.order(0, 0, gate, false, 1), 0, 0));
        Edge.of("`isIn`: whether gold is put in, otherwise taken out", () -> {
            Castlequorum game = Scene.unlike();
            game.order(0, 0, 0, true, 30);
            Check.due("put in", game.gold(0, false), 100);
            Check.due("its letter", game.entryOf(0, 1), 'i');
            game.order(0, 0, 0, false, 100);
            Check.due("taken out", game.gold(0, false), 0);
            Check.due("its letter", game.entryOf(0, 2), 'o');
        });
        Edge.of("`amount`: the amount", () -> {
            Edge.bounds(Scene::unlike, (game, amount) -> {
                game.order(3, 1, 2, false, amount);
                return game.purse(3, 1);
            }, 1, 901, 999, 1899, Edge.ARGUMENT);
            Edge.bounds(() -> {
                Castlequorum game = Scene.unlike();
                game.order(3, 1, 2, false, 999);
                return game;
            }, (game, amount) -> {
                game.order(3, 1, 2, true, amount);
                return game.purse(3, 1);
            }, 1, 1898, 999, 900, Edge.ARGUMENT);
        });
    }

    private static void orderAnswers() {
        Edge.of("Returns the number of the entry.", () -> {
            Castlequorum game = Scene.leased();
            for (int entry = 0; entry < 60; entry++) {
                Check.due("the number", game.order(0, 0, 0, entry % 2 == 1, 1), entry);
            }
            game.build(0, 3, 100);
            game.lease(0, 0, 0, 20);
            Scene.nearOnly(game, 0, 0, 1);
            Check.due("the first since it was built, that hangs", game.order(0, 0, 0, false, 1), 0);
            Check.due("the next, that hangs", game.order(0, 0, 0, false, 1), 1);
        });
        Edge.of("Throws `IndexOutOfBoundsException` if there is no such castle, gate or lord", () -> {
            Castlequorum game = Scene.leased();
            int[][] rows = {{-1, 0, 0}, {4, 0, 0}, {0, -1, 0}, {0, 2, 0}, {0, 0, -1}, {0, 0, 3}, {4, 2, 3}};
            for (int[] row : rows) {
                for (int amount = 0; amount < 2; amount++) {
                    int told = amount;
                    Check.refused("lord " + row[0] + ", castle " + row[1] + ", gate " + row[2], game, Edge.INDEX,
                        () -> game.order(row[0], row[1], row[2], told == 0, told));
                }
            }
        });
        Edge.of("Throws `IllegalArgumentException` if the amount is not 1 to 999", () -> {
            Castlequorum game = Scene.unlike();
            for (int amount : new int[] {0, -1, 1000, Integer.MIN_VALUE, Integer.MAX_VALUE}) {
                Check.refused("out, " + amount, game, Edge.ARGUMENT, () -> game.order(3, 1, 2, false, amount));
                Check.refused("in, " + amount, game, Edge.ARGUMENT, () -> game.order(3, 1, 2, true, amount));
                Check.refused("at a closed gate, " + amount, game, Edge.ARGUMENT, () -> game.order(3, 1, 0, true, amount));
            }
        });
    }

    private static void orderRefusals() {
        Edge.of("Throws `UnsupportedOperationException` if the gate is not open for this lord, there is not as much, or no tower"
            + " is near", () -> {
                Castlequorum game = Scene.unlike();
                Check.refused("closed", game, Edge.CANNOT, () -> game.order(0, 0, 1, false, 1));
                Check.refused("open for another", game, Edge.CANNOT, () -> game.order(1, 0, 0, false, 1));
                Check.refused("one more than the gold", game, Edge.CANNOT, () -> game.order(0, 0, 0, false, 71));
                Check.refused("one more than the purse", game, Edge.CANNOT, () -> game.order(0, 0, 0, true, 31));
                Check.refused("from another's purse", game, Edge.CANNOT, () -> game.order(1, 0, 0, true, 1));
                game.fall(0, 0);
                game.fall(0, 1);
                game.cut(0, 2, 0, true);
                Check.refused("no tower is near", game, Edge.CANNOT, () -> game.order(0, 0, 0, false, 1));
                game.cut(0, 2, 0, false);
                Check.due("one tower is near", game.order(0, 0, 0, false, 70), 1);
                game.wait(9);
                Check.due("the last tick of the lease", game.order(0, 0, 0, true, 30), 2);
                game.wait(1);
                Check.refused("its tick", game, Edge.CANNOT, () -> game.order(0, 0, 0, false, 1));
            });
        Edge.of("Throws `IllegalStateException` if the castle has 60 entries", () -> {
            Castlequorum game = Scene.filled(59);
            Check.due("with 59", game.order(0, 0, 0, true, 1), 59);
            Check.refused("out, with 60", game, Edge.FULL, () -> game.order(0, 0, 0, false, 1));
            game.lease(0, 1, 0, 20);
            Check.due("at the other castle", game.order(0, 1, 0, false, 1), 0);
            Castlequorum hanging = Scene.oneNear();
            for (int entry = 0; entry < 60; entry++) {
                hanging.order(0, 0, 0, false, 1);
            }
            Check.refused("with 60 that hang", hanging, Edge.FULL, () -> hanging.order(0, 0, 0, false, 1));
            hanging.burn(0, 0);
            hanging.strike(0);
            Scene.nearOnly(hanging, 0, 0, -1);
            Check.refused("with 60 that are struck", hanging, Edge.FULL, () -> hanging.order(0, 0, 0, false, 1));
        });
    }

    /** Castle 0 and castle 1 have one entry each that hangs, at one tower of 3, and at two towers of 7. */
    private static Castlequorum hanging() {
        Castlequorum game = new Castlequorum();
        game.build(1, 7, 100);
        game.lease(0, 0, 0, 20);
        game.lease(0, 1, 0, 20);
        Scene.orderTo(game, 0, 0b001);
        Scene.orderTo(game, 1, 0b0110000);
        return game;
    }

    private static void spreading() {
        Edge.in("Promise 17");
        Edge.of("Spreads the entries of a castle.", () -> {
            Castlequorum game = hanging();
            game.spread(1);
            for (int tower = 0; tower < 7; tower++) {
                Check.due("tower " + tower, game.has(1, tower, 0), true);
            }
            Check.due("it is committed", game.isCommitted(1, 0), true);
            Check.due("the other castle's entry", game.has(0, 1, 0), false);
        });
        Edge.of(CASTLE, () -> Edge.castles(EdgesOfEntries::hanging, (game, castle) -> game.spread(castle), 2, 5));
        Edge.of("Returns how many entries towers got, of all towers.", () -> {
            Castlequorum game = new Castlequorum();
            Check.due("an empty row", game.spread(0), 0);
            Castlequorum full = Scene.ofTowers(7);
            full.lease(0, 0, 0, 20);
            for (int entry = 0; entry < 60; entry++) {
                Scene.orderTo(full, 0, 1 << entry % 7);
            }
            Check.due("a full row, each entry at one of seven", full.spread(0), 360);
            Check.due("again", full.spread(0), 0);
            full.burn(0, 3);
            full.rise(0, 3);
            Check.due("one that burnt and rose gets all", full.spread(0), 60);
            Scene.upOnly(full, 0, 0b1000000);
            full.burn(0, 2);
            Check.due("one alone gets none", full.spread(0), 0);
            Scene.upOnly(full, 0, 0);
            Check.due("none is up", full.spread(0), 0);
        });
        Edge.of(NO_CASTLE, () -> noSuchCastle((game, castle) -> game.spread(castle)));
    }

    private static void striking() {
        Edge.in("Promise 18");
        Edge.of("Strikes the entries that hang and that no tower has.", () -> {
            Castlequorum game = Scene.leased();
            Scene.orderTo(game, 0, 0b111);
            Scene.orderTo(game, 0, 0b001);
            Scene.orderTo(game, 0, 0b010);
            Scene.orderTo(game, 0, 0b101);
            game.burn(0, 0);
            game.burn(0, 2);
            game.strike(0);
            String letters = "";
            for (int entry = 0; entry < 4; entry++) {
                letters += game.entryOf(0, entry);
            }
            Check.due("one counts, one has a tower, two are struck", letters, "o-o-");
            Check.due("those that count", game.counting(0), 2);
        });
        Edge.of(CASTLE, () -> Edge.castles(() -> {
            Castlequorum game = hanging();
            Scene.orderTo(game, 1, 0b0010000);
            game.burn(0, 0);
            game.burn(1, 4);
            game.burn(1, 5);
            return game;
        }, (game, castle) -> game.strike(castle), 1, 2));
        Edge.of("Returns how many.", () -> {
            Castlequorum game = Scene.oneNear();
            Check.due("of an empty row", game.strike(0), 0);
            for (int entry = 0; entry < 60; entry++) {
                game.order(0, 0, 0, false, 1);
            }
            Check.due("of a full row that a tower has", game.strike(0), 0);
            game.fall(0, 0);
            Check.due("of one that a fallen tower has", game.strike(0), 0);
            game.burn(0, 0);
            Check.due("of one that no tower has", game.strike(0), 60);
            Check.due("again", game.strike(0), 0);
        });
        Edge.of(NO_CASTLE, () -> noSuchCastle((game, castle) -> game.strike(castle)));
    }

    private static void entries() {
        Edge.in("Promise 19");
        Edge.of("Returns how many entries a castle has.", () -> {
            Castlequorum game = hanging();
            Check.due("one that hangs", game.entries(0), 1);
            game.burn(0, 0);
            Check.due("one that no tower has", game.entries(0), 1);
            game.strike(0);
            Check.due("one that is struck", game.entries(0), 1);
            game.build(0, 3, 100);
            Check.due("none when it is built anew", game.entries(0), 0);
        });
        Edge.of(CASTLE, () -> Edge.castles(Scene::unlike, (game, castle) -> game.entries(castle), 1, 3));
        Edge.of("Returns their number.", () -> {
            for (int number = 0; number <= 60; number++) {
                Check.due("their number", Scene.filled(number).entries(0), number);
            }
        });
        Edge.of(NO_CASTLE, () -> noSuchCastle((game, castle) -> game.entries(castle)));
    }

    private static void counting() {
        Edge.in("Promise 20");
        Edge.of("Returns how many entries of a castle count.", () -> {
            Castlequorum game = Scene.leased();
            Scene.orderTo(game, 0, 0b011);
            Scene.orderTo(game, 0, 0b100);
            Scene.orderTo(game, 0, 0b111);
            Check.due("one ahead of one that hangs", game.counting(0), 1);
            game.burn(0, 2);
            game.strike(0);
            Check.due("when that one is struck", game.counting(0), 3);
        });
        Edge.of(CASTLE, () -> Edge.castles(Scene::unlike, (game, castle) -> game.counting(castle), 1, 3));
        Edge.of("Returns their number.", () -> {
            for (int number = 0; number <= 60; number++) {
                Check.due("all", Scene.filled(number).counting(0), number);
            }
            Castlequorum game = Scene.oneNear();
            for (int entry = 0; entry < 60; entry++) {
                game.order(0, 0, 0, false, 1);
            }
            Check.due("none", game.counting(0), 0);
            game.spread(0);
            Check.due("all of them at once", game.counting(0), 60);
        });
        Edge.of(NO_CASTLE, () -> noSuchCastle((game, castle) -> game.counting(castle)));
    }

    /** Castle 1 has one entry of each kind, o i p a r p d -, with the amounts 90 15 33 33 62 7 7 5; castle 0 has p d. */
    private static Castlequorum allKinds() {
        Castlequorum game = new Castlequorum();
        game.build(1, 5, 200);
        game.lease(2, 1, 0, 20);
        game.order(2, 1, 0, false, 90);
        game.order(2, 1, 0, true, 15);
        game.truce(1, 33);
        game.prepare(0, 1, 2);
        game.decide(0, false);
        game.settle(1);
        game.scout(2, 1);
        game.raid(0, 0);
        game.truce(1, 7);
        game.prepare(1, 1, 2);
        game.prepare(1, 0, 2);
        game.decide(1, true);
        game.settle(1);
        game.settle(0);
        Scene.nearOnly(game, 1, 2, 1);
        game.order(2, 1, 0, false, 5);
        game.burn(1, 0);
        game.strike(1);
        return game;
    }

    private static void entryOf() {
        Edge.in("Promise 21");
        Edge.of("Returns the letter of an entry.", () -> {
            Castlequorum game = allKinds();
            Check.due("at castle 0", "" + game.entryOf(0, 0) + game.entryOf(0, 1), "pd");
        });
        Edge.of(CASTLE, () -> Edge.castles(EdgesOfEntries::allKinds, (game, castle) -> game.entryOf(castle, 1), 'd', 'i'));
        Edge.of("`entry`: the number of the entry", () -> Edge.bounds(EdgesOfEntries::allKinds,
            (game, entry) -> game.entryOf(1, entry), 0, 'o', 7, '-', Edge.INDEX));
        Edge.of("Returns i, o, r, p, d or a, '-' for a struck one.", () -> {
            Castlequorum game = allKinds();
            String letters = "";
            for (int entry = 0; entry < 8; entry++) {
                letters += game.entryOf(1, entry);
            }
            Check.due("the letters", letters, "oiparpd-");
            Castlequorum hanging = Scene.leased();
            Scene.orderTo(hanging, 0, 1);
            Check.due("one that hangs", hanging.entryOf(0, 0), 'o');
            hanging.burn(0, 0);
            Check.due("one that no tower has", hanging.entryOf(0, 0), 'o');
        });
        Edge.of(NO_ENTRY, () -> noSuchCastleOrEntry(Castlequorum::entryOf));
    }

    private static void amountOf() {
        Edge.in("Promise 22");
        Edge.of("Returns the amount of an entry.", () -> {
            Castlequorum game = Scene.ofTowers(3, 9999);
            game.lease(0, 0, 0, 20);
            game.order(0, 0, 0, false, 999);
            game.order(0, 0, 0, true, 1);
            game.scout(0, 0);
            game.raid(0, 0);
            game.truce(1, 999);
            game.prepare(0, 0, 0);
            Check.due("the greatest of an order", game.amountOf(0, 0), 999);
            Check.due("the least of an order", game.amountOf(0, 1), 1);
            Check.due("of a raid", game.amountOf(0, 2), 4500);
            Check.due("of a preparation, where gold comes to", game.amountOf(0, 3), 999);
        });
        Edge.of(CASTLE, () -> Edge.castles(EdgesOfEntries::allKinds, (game, castle) -> game.amountOf(castle, 1), 7, 15));
        Edge.of("`entry`: the number of the entry", () -> Edge.bounds(EdgesOfEntries::allKinds,
            (game, entry) -> game.amountOf(1, entry), 0, 90, 7, 5, Edge.INDEX));
        Edge.of("Returns the amount.", () -> {
            Castlequorum game = allKinds();
            String amounts = "";
            for (int entry = 0; entry < 8; entry++) {
                amounts += " " + game.amountOf(1, entry);
            }
            Check.due("the amounts", amounts, " 90 15 33 33 62 7 7 5");
            Castlequorum none = Scene.ofTowers(3, 1);
            none.lease(0, 0, 0, 20);
            none.scout(0, 0);
            none.raid(0, 0);
            Check.due("of a raid of nothing", none.amountOf(0, 0), 0);
        });
        Edge.of(NO_ENTRY, () -> noSuchCastleOrEntry(Castlequorum::amountOf));
    }

    private static void isCommitted() {
        Edge.in("Promise 23");
        Edge.of("Tells whether an entry is committed.", () -> {
            for (int towers = 1; towers <= 7; towers++) {
                for (int at = 1; at <= towers; at++) {
                    Castlequorum game = Scene.ofTowers(towers);
                    game.lease(0, 0, 0, 20);
                    Scene.orderTo(game, 0, (1 << at) - 1);
                    Check.due("at " + at + " of " + towers, game.isCommitted(0, 0), 2 * at > towers);
                }
            }
        });
        Edge.of(CASTLE, () -> Edge.castles(EdgesOfEntries::halfCommitted,
            (game, castle) -> game.isCommitted(castle, 0), true, false));
        Edge.of("`entry`: the number of the entry", () -> Edge.bounds(EdgesOfEntries::halfCommitted,
            (game, entry) -> game.isCommitted(0, entry), 0, true, 1, false, Edge.INDEX));
        Edge.of("Returns true if so.", () -> {
            Castlequorum game = halfCommitted();
            game.burn(0, 0);
            game.burn(0, 1);
            game.burn(0, 2);
            Check.due("one that no tower has any more", game.isCommitted(0, 0), true);
            game.strike(0);
            Check.due("a struck one that was not", game.isCommitted(0, 1), false);
            game.spread(1);
            Check.due("one that a quorum has now", game.isCommitted(1, 0), true);
            Castlequorum behind = Scene.leased();
            Scene.orderTo(behind, 0, 0b001);
            Scene.orderTo(behind, 0, 0b110);
            Check.due("one that is, and hangs", behind.isCommitted(0, 1), true);
        });
        Edge.of(NO_ENTRY, () -> noSuchCastleOrEntry(Castlequorum::isCommitted));
    }

    /** At castle 0 entry 0 is committed and entry 1 is not, at castle 1 entry 0 is not. */
    private static Castlequorum halfCommitted() {
        Castlequorum game = Scene.leased();
        game.lease(0, 1, 0, 20);
        Scene.orderTo(game, 0, 0b011);
        Scene.orderTo(game, 0, 0b100);
        Scene.orderTo(game, 1, 0b010);
        return game;
    }

    private static void has() {
        Edge.in("Promise 24");
        Edge.of("Tells whether a tower has an entry.", () -> {
            Castlequorum game = halfCommitted();
            for (int tower = 0; tower < 3; tower++) {
                Check.due("entry 0", game.has(0, tower, 0), tower < 2);
                Check.due("entry 1", game.has(0, tower, 1), tower == 2);
                Check.due("entry 0 of castle 1", game.has(1, tower, 0), tower == 1);
            }
        });
        Edge.of(CASTLE, () -> Edge.castles(EdgesOfEntries::halfCommitted, (game, castle) -> game.has(castle, 0, 0), true, false));
        Edge.of("`tower`: the tower", () -> {
            Edge.bounds(EdgesOfEntries::halfCommitted, (game, tower) -> game.has(0, tower, 1), 0, false, 2, true, Edge.INDEX);
            Edge.bounds(Scene::unlike, (game, tower) -> game.has(1, tower, 0), 0, true, 6, true, Edge.INDEX);
        });
        Edge.of("`entry`: the number of the entry", () -> {
            Edge.bounds(EdgesOfEntries::halfCommitted, (game, entry) -> game.has(0, 2, entry), 0, false, 1, true, Edge.INDEX);
            Edge.bounds(() -> Scene.filled(60), (game, entry) -> game.has(0, 2, entry), 0, true, 59, true, Edge.INDEX);
        });
        Edge.of("Returns true if so.", () -> {
            Castlequorum game = halfCommitted();
            game.fall(0, 0);
            Check.due("one that has fallen", game.has(0, 0, 0), true);
            game.burn(0, 0);
            Check.due("one that has burnt", game.has(0, 0, 0), false);
            game.rise(0, 0);
            Check.due("one that has risen", game.has(0, 0, 0), false);
            game.spread(0);
            Check.due("when it is spread", game.has(0, 0, 0) && game.has(0, 0, 1), true);
        });
        Edge.of("Throws `IndexOutOfBoundsException` if there is no such castle, tower or entry", () -> {
            noSuchCastleOrEntry((game, castle, entry) -> game.has(castle, 0, entry));
            Castlequorum game = Scene.unlike();
            Check.refused("tower -1", game, Edge.INDEX, () -> game.has(0, -1, 0));
            Check.refused("a tower that the other castle alone has", game, Edge.INDEX, () -> game.has(0, 3, 0));
            Check.refused("tower 7", game, Edge.INDEX, () -> game.has(1, 7, 0));
            Check.refused("tower 32", game, Edge.INDEX, () -> game.has(1, 32, 0));
        });
    }

    private static void gold() {
        Edge.in("Promise 25");
        Edge.of("Returns the gold of a castle.", () -> {
            Castlequorum game = hanging();
            Check.due("without an order that hangs", game.gold(0, false), 100);
            game.spread(0);
            Check.due("with one that counts", game.gold(0, false), 99);
        });
        Edge.of(CASTLE, () -> Edge.castles(Scene::unlike, (game, castle) -> game.gold(castle, false), 70, 4100));
        Edge.of("`isHeld`: whether the held gold is meant", () -> {
            Edge.castles(Scene::unlike, (game, castle) -> game.gold(castle, true), 0, 40);
            Castlequorum game = Scene.unlike();
            Check.due("not the held gold: what is held is gold, too", game.gold(1, false), 4100);
        });
        Edge.of("Returns the gold.", () -> {
            Check.due("none", Scene.ofTowers(1, 0).gold(0, false), 0);
            Check.due("as much as can be built with", Scene.ofTowers(1, 9999).gold(0, false), 9999);
            Castlequorum game = Scene.ofTowers(7, 9999);
            game.build(1, 7, 9999);
            for (int truce = 0; truce < 8; truce++) {
                game.truce(1, 999);
                game.prepare(truce, 0, 0);
                game.prepare(truce, 1, 0);
                Check.due("held gold", game.gold(1, true), 999);
                game.decide(truce, true);
                game.settle(0);
                game.settle(1);
            }
            Check.due("eight truces more than that", game.gold(0, false), 9999 + 8 * 999);
            Check.due("eight truces less", game.gold(1, false), 9999 - 8 * 999);
            Check.due("held gold then", game.gold(1, true), 0);
        });
        Edge.of(NO_CASTLE, () -> {
            noSuchCastle((game, castle) -> game.gold(castle, false));
            noSuchCastle((game, castle) -> game.gold(castle, true));
        });
    }

    private static void purse() {
        Edge.in("Promise 26");
        Edge.of("Returns the purse of a lord at a castle.", () -> {
            Castlequorum game = Scene.unlike();
            for (int lord = 0; lord < 4; lord++) {
                Check.due("lord " + lord + " at castle 0", game.purse(lord, 0), lord == 0 ? 30 : 0);
                Check.due("lord " + lord + " at castle 1", game.purse(lord, 1), lord == 3 ? 900 : 0);
            }
        });
        Edge.of("`lord`: the lord, 0 to 3", () -> Edge.lords(Scene::unlike, (game, lord) -> game.purse(lord, 1), 0, 900));
        Edge.of(CASTLE, () -> Edge.castles(Scene::unlike, (game, castle) -> game.purse(0, castle), 30, 0));
        Edge.of("Returns the gold in it.", () -> {
            Castlequorum game = Scene.ofTowers(3, 9999);
            game.lease(1, 0, 0, 20);
            for (int order = 1; order <= 10; order++) {
                game.order(1, 0, 0, false, 999);
                Check.due("after so many orders", game.purse(1, 0), 999 * order);
            }
            game.order(1, 0, 0, false, 9);
            Check.due("all the gold there was", game.purse(1, 0), 9999);
            game.lease(1, 0, 0, 20);
            Scene.nearOnly(game, 0, 1, 1);
            game.order(1, 0, 0, true, 999);
            Check.due("without an order that hangs", game.purse(1, 0), 9999);
            game.build(0, 3, 100);
            Check.due("when the castle is built anew", game.purse(1, 0), 0);
        });
        Edge.of("Throws `IndexOutOfBoundsException` if there is no such castle or lord", () -> {
            noSuchCastle((game, castle) -> game.purse(0, castle));
            Castlequorum game = Scene.unlike();
            Check.refused("lord 4", game, Edge.INDEX, () -> game.purse(4, 0));
            Check.refused("lord -1", game, Edge.INDEX, () -> game.purse(-1, 0));
        });
    }
}
