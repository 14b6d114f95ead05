/** The sentences of promises 1 to 7: a new object, build, wait, fall, burn, rise, cut. */
final class EdgesOfCastles {
    private EdgesOfCastles() {
    }

    static void play() {
        newObject();
        buildNumbers();
        buildAnswers();
        waiting();
        falling();
        burning();
        rising();
        cutNumbers();
        cutAnswers();
    }

    private static void newObject() {
        Edge.in("Promise 1");
        Edge.of("Creates two castles of 3 towers, at the tick 0.", () -> {
            Castlequorum game = new Castlequorum();
            for (int castle = 0; castle < 2; castle++) {
                int here = castle;
                Check.due("tower 0", game.tower(castle, 0), 'u');
                Check.due("tower 2", game.tower(castle, 2), 'u');
                Check.refused("tower 3", game, Edge.INDEX, () -> game.tower(here, 3));
            }
            Check.refused("castle 2", game, Edge.INDEX, () -> game.tower(2, 0));
            Check.due("the tick", game.time(), 0);
        });
    }

    private static void buildNumbers() {
        Edge.in("Promise 2");
        Edge.of("Builds a castle anew.", () -> {
            Castlequorum game = Scene.filled(60);
            game.build(0, 3, 100);
            Check.due("it is as a new one", Picture.of(game), Picture.of(new Castlequorum()));
            game.build(0, 3, 100);
            Check.due("and again", Picture.of(game), Picture.of(new Castlequorum()));
        });
        Edge.of("`castle`: the castle, 0 or 1",
            () -> Edge.castles(EdgesOfCastles::settled, (game, castle) -> game.build(castle, 3, 100), 1, 3));
        Edge.of("`towers`: how many towers, 1 to 7", () -> {
            Edge.bounds(Castlequorum::new, (game, towers) -> {
                game.build(1, towers, 100);
                return game.near(0, 1);
            }, 1, 1, 7, 7, Edge.ARGUMENT);
            for (int from = 1; from <= 7; from++) {
                for (int to = 1; to <= 7; to++) {
                    Castlequorum game = Scene.ofTowers(from);
                    game.build(0, to, 100);
                    int towers = to;
                    Check.due("the last tower", game.tower(0, to - 1), 'u');
                    Check.refused("the next one", game, Edge.INDEX, () -> game.tower(0, towers));
                }
            }
        });
        Edge.of("`gold`: the gold, 0 to 9999", () -> Edge.bounds(Castlequorum::new, (game, gold) -> {
            game.build(1, 3, gold);
            return game.gold(1, false);
        }, 0, 0, 9999, 9999, Edge.ARGUMENT));
    }

    /** Castle 0 has one entry, castle 1 has three; no truce is prepared and not settled. */
    private static Castlequorum settled() {
        Castlequorum game = Scene.unlike();
        game.decide(0, false);
        game.order(3, 1, 2, false, 1);
        game.settle(1);
        game.build(1, 7, 1000);
        game.lease(3, 1, 2, 20);
        for (int entry = 0; entry < 3; entry++) {
            game.order(3, 1, 2, false, 1);
        }
        return game;
    }

    private static void buildAnswers() {
        Edge.of("Returns how many entries it had.", () -> {
            Castlequorum game = Scene.filled(60);
            Check.due("of a full row", game.build(0, 3, 100), 60);
            Check.due("of an empty row", game.build(0, 3, 100), 0);
            game.lease(0, 0, 0, 20);
            Scene.orderTo(game, 0, 1);
            game.burn(0, 0);
            game.strike(0);
            Scene.orderTo(game, 0, 2);
            Check.due("a struck one, and one that hangs", game.build(0, 3, 100), 2);
            Check.due("the other castle's are its own", game.build(1, 3, 100), 0);
        });
        Edge.of("Throws `IndexOutOfBoundsException` if there is no such castle", () -> {
            Castlequorum game = Scene.unlike();
            Check.refused("castle 2, numbers in range", game, Edge.INDEX, () -> game.build(2, 1, 0));
            Check.refused("castle -1, numbers out of range", game, Edge.INDEX, () -> game.build(-1, 8, 10000));
        });
        Edge.of("Throws `IllegalArgumentException` if a number is out of range", () -> {
            Castlequorum game = Scene.unlike();
            for (int castle = 0; castle < 2; castle++) {
                int here = castle;
                Check.refused("0 towers", game, Edge.ARGUMENT, () -> game.build(here, 0, 100));
                Check.refused("8 towers", game, Edge.ARGUMENT, () -> game.build(here, 8, 100));
                Check.refused("the gold -1", game, Edge.ARGUMENT, () -> game.build(here, 3, -1));
                Check.refused("the gold 10000", game, Edge.ARGUMENT, () -> game.build(here, 3, 10000));
                Check.refused("both", game, Edge.ARGUMENT, () -> game.build(here, 0, 10000));
            }
        });
        Edge.of("Throws `UnsupportedOperationException` if a truce is prepared and not settled there", () -> {
            Castlequorum game = new Castlequorum();
            for (int truce = 0; truce < 8; truce++) {
                game.truce(0, 1);
            }
            Check.due("truces that are only begun", game.build(0, 3, 100), 0);
            game.prepare(7, 0, 0);
            Check.refused("the last one is prepared", game, Edge.CANNOT, () -> game.build(0, 1, 0));
            Check.due("not at the other castle", game.build(1, 3, 100), 0);
            game.prepare(7, 1, 0);
            game.decide(7, true);
            Check.refused("it is decided to be done", game, Edge.CANNOT, () -> game.build(0, 3, 100));
            game.settle(0);
            Check.due("it is settled there", game.build(0, 3, 100), 2);
            Check.refused("but not at the other castle", game, Edge.CANNOT, () -> game.build(1, 3, 100));
            game.settle(1);
            Check.due("it is settled there, too", game.build(1, 3, 100), 2);
            game.prepare(0, 0, 0);
            game.decide(0, false);
            Check.refused("the first one is decided to be aborted", game, Edge.CANNOT, () -> game.build(0, 3, 100));
            game.settle(0);
            Check.due("it is settled", game.build(0, 3, 100), 2);
        });
    }

    private static void waiting() {
        Edge.in("Promise 3");
        Edge.of("Lets time go by.", () -> {
            Castlequorum game = new Castlequorum();
            game.wait(1);
            Check.due("by one", game.time(), 1);
            game.wait(100);
            Check.due("by a hundred", game.time(), 101);
        });
        Edge.of("`ticks`: how many ticks, 1 to 100",
            () -> Edge.bounds(Scene::unlike, Castlequorum::wait, 1, 6, 100, 105, Edge.ARGUMENT));
        Edge.of("Returns the tick then.", () -> {
            Castlequorum game = new Castlequorum();
            for (int ticks = 1; ticks <= 100; ticks++) {
                Check.due("after so many more, " + ticks, game.wait(ticks), ticks * (ticks + 1) / 2);
            }
            for (int more = 1; more <= 411; more++) {
                Check.due("a tick that wraps around nowhere", game.wait(100), 5050 + 100 * more);
            }
        });
        Edge.of("Throws `IllegalArgumentException` if it is out of range", () -> {
            Castlequorum game = Scene.unlike();
            for (int ticks : new int[] {0, -1, -100, 101, Integer.MAX_VALUE, Integer.MIN_VALUE}) {
                Check.refused("wait(" + ticks + ")", game, Edge.ARGUMENT, () -> game.wait(ticks));
            }
        });
    }

    private static void falling() {
        Edge.in("Promise 4");
        Edge.of("Lets a tower fall.", () -> {
            Castlequorum game = Scene.unlike();
            game.fall(1, 6);
            Check.due("that tower", game.tower(1, 6), 'd');
            Check.due("the one ahead of it", game.tower(1, 5), 'u');
            Check.due("the other castle's", game.near(0, 0), 3);
            Check.due("its entries stay", game.has(1, 6, 0), true);
            game.fall(1, 6);
            Check.due("again: its entries stay", game.has(1, 6, 0), true);
        });
        Edge.of("`castle`: the castle, 0 or 1", () -> Edge.castles(() -> {
            Castlequorum game = new Castlequorum();
            game.fall(0, 1);
            return game;
        }, (game, castle) -> game.fall(castle, 1), false, true));
        Edge.of("`tower`: the tower", () -> {
            for (int towers = 2; towers <= 7; towers++) {
                int of = towers;
                Edge.bounds(() -> {
                    Castlequorum game = Scene.ofTowers(of);
                    game.fall(0, 0);
                    return game;
                }, (game, tower) -> game.fall(0, tower), 0, false, towers - 1, true, Edge.INDEX);
            }
            Edge.bounds(() -> Scene.ofTowers(1), (game, tower) -> game.fall(0, tower), 0, true, 0, true, Edge.INDEX);
        });
        Edge.of("Returns whether it was up.", () -> {
            Castlequorum game = new Castlequorum();
            Check.due("it was up", game.fall(1, 0), true);
            Check.due("it was down", game.fall(1, 0), false);
            game.rise(1, 0);
            Check.due("it was up, and waited", game.fall(1, 0), true);
            game.burn(1, 1);
            Check.due("it had burnt", game.fall(1, 1), false);
        });
        Edge.of("Throws `IndexOutOfBoundsException` if there is no such castle or tower", () -> {
            Castlequorum game = Scene.unlike();
            Check.refused("castle 2", game, Edge.INDEX, () -> game.fall(2, 0));
            Check.refused("castle -1", game, Edge.INDEX, () -> game.fall(-1, 0));
            Check.refused("a tower that the other castle alone has", game, Edge.INDEX, () -> game.fall(0, 3));
            Check.refused("tower 7", game, Edge.INDEX, () -> game.fall(1, 7));
            Check.refused("tower 32", game, Edge.INDEX, () -> game.fall(1, 32));
        });
    }

    private static void burning() {
        Edge.in("Promise 5");
        Edge.of("Lets a tower burn.", () -> {
            Castlequorum game = Scene.unlike();
            game.burn(1, 6);
            Check.due("that tower", game.tower(1, 6), 'd');
            Check.due("it has no entry", game.has(1, 6, 0), false);
            Check.due("the one ahead of it", game.tower(1, 5), 'u');
            Check.due("it has its entry", game.has(1, 5, 0), true);
            Check.due("the other castle's", game.has(0, 0, 0), true);
            Check.refused("its vote", game, Edge.NOBODY, () -> game.voteOf(1, 6, 2));
        });
        Edge.of("`castle`: the castle, 0 or 1",
            () -> Edge.castles(Scene::unlike, (game, castle) -> game.burn(castle, 1), 1, 3));
        Edge.of("`tower`: the tower", () -> {
            for (int towers = 2; towers <= 7; towers++) {
                int of = towers;
                Edge.bounds(() -> {
                    Castlequorum game = Scene.ofTowers(of);
                    game.lease(0, 0, 0, 20);
                    Scene.orderTo(game, 0, 1 << of - 1);
                    return game;
                }, (game, tower) -> game.burn(0, tower), 0, 0, towers - 1, 1, Edge.INDEX);
            }
        });
        Edge.of("Returns how many entries it had.", () -> {
            Castlequorum game = Scene.filled(60);
            Check.due("of a full row", game.burn(0, 0), 60);
            Check.due("of what has burnt", game.burn(0, 0), 0);
            game.fall(0, 1);
            Check.due("of what has fallen", game.burn(0, 1), 60);
            Check.due("of an empty row", game.burn(1, 0), 0);
            Castlequorum other = Scene.leased();
            Scene.orderTo(other, 0, 0b001);
            Scene.orderTo(other, 0, 0b110);
            Scene.orderTo(other, 0, 0b101);
            Check.due("one that counts not, and two that it has", other.burn(0, 0), 2);
            other.spread(0);
            Check.due("the two that are left", other.burn(0, 1), 2);
        });
        Edge.of("Throws `IndexOutOfBoundsException` if there is no such castle or tower", () -> {
            Castlequorum game = Scene.unlike();
            Check.refused("castle 2", game, Edge.INDEX, () -> game.burn(2, 0));
            Check.refused("castle -1", game, Edge.INDEX, () -> game.burn(-1, 0));
            Check.refused("a tower that the other castle alone has", game, Edge.INDEX, () -> game.burn(0, 3));
            Check.refused("tower 7", game, Edge.INDEX, () -> game.burn(1, 7));
            Check.refused("tower 32", game, Edge.INDEX, () -> game.burn(1, 32));
        });
    }

    /** Tower 0 of castle 0 and tower 6 of castle 1 are down. */
    private static Castlequorum twoDown() {
        Castlequorum game = Scene.unlike();
        game.fall(0, 0);
        game.burn(1, 6);
        return game;
    }

    private static void rising() {
        Edge.in("Promise 6");
        Edge.of("Lets a tower rise; nothing comes of it if it is up.", () -> {
            Castlequorum game = twoDown();
            String before = Picture.of(game);
            game.rise(1, 0);
            Check.due("one that is up", Picture.of(game), before);
            game.rise(1, 6);
            Check.due("one that is down", game.tower(1, 6), 'w');
            Check.due("the other castle's", game.tower(0, 0), 'd');
            game.wait(19);
            before = Picture.of(game);
            game.rise(1, 6);
            Check.due("one that waits", Picture.of(game), before);
            game.wait(1);
            Check.due("it waits no longer for that", game.tower(1, 6), 'u');
            game.fall(1, 6);
            game.rise(1, 6);
            Check.due("one that falls again waits again", game.tower(1, 6), 'w');
            Check.due("its entries have burnt", game.has(1, 6, 0), false);
        });
        Edge.of("`castle`: the castle, 0 or 1",
            () -> Edge.castles(EdgesOfCastles::twoDown, (game, castle) -> game.rise(castle, 0), true, false));
        Edge.of("`tower`: the tower",
            () -> {
                Edge.bounds(EdgesOfCastles::twoDown, (game, tower) -> game.rise(0, tower), 0, true, 2, false, Edge.INDEX);
                Edge.bounds(EdgesOfCastles::twoDown, (game, tower) -> game.rise(1, tower), 0, false, 6, true, Edge.INDEX);
            });
        Edge.of("Returns whether it was down.", () -> {
            Castlequorum game = twoDown();
            Check.due("it had fallen", game.rise(0, 0), true);
            Check.due("it waits", game.rise(0, 0), false);
            Check.due("it had burnt", game.rise(1, 6), true);
            game.wait(20);
            Check.due("it waits no more", game.rise(1, 6), false);
            Check.due("it was never down", game.rise(1, 5), false);
        });
        Edge.of("Throws `IndexOutOfBoundsException` if there is no such castle or tower", () -> {
            Castlequorum game = twoDown();
            Check.refused("castle 2", game, Edge.INDEX, () -> game.rise(2, 0));
            Check.refused("castle -1", game, Edge.INDEX, () -> game.rise(-1, 0));
            Check.refused("a tower that the other castle alone has", game, Edge.INDEX, () -> game.rise(0, 6));
            Check.refused("tower 7", game, Edge.INDEX, () -> game.rise(1, 7));
            Check.refused("tower 32", game, Edge.INDEX, () -> game.rise(1, 32));
        });
    }

    /** The link of lord 0 to tower 0 of castle 0 is cut, and no other one. */
    private static Castlequorum oneCut() {
        Castlequorum game = Scene.unlike();
        game.cut(0, 0, 0, true);
        return game;
    }

    private static void cutNumbers() {
        Edge.in("Promise 7");
        Edge.of("Cuts the link of a lord to a tower, or mends it.", () -> {
            for (int lord = 0; lord < 4; lord++) {
                Castlequorum game = new Castlequorum();
                game.cut(1, 2, lord, true);
                for (int other = 0; other < 4; other++) {
                    Check.due("near at that castle", game.near(other, 1), other == lord ? 2 : 3);
                    Check.due("near at the other one", game.near(other, 0), 3);
                }
                game.cut(1, 2, lord, false);
                Check.due("near when it is mended", game.near(lord, 1), 3);
            }
        });
        Edge.of("`castle`: the castle, 0 or 1",
            () -> Edge.castles(EdgesOfCastles::oneCut, (game, castle) -> game.cut(castle, 0, 0, true), true, false));
        Edge.of("`tower`: the tower", () -> {
            Edge.bounds(EdgesOfCastles::oneCut, (game, tower) -> game.cut(0, tower, 0, true), 0, true, 2, false, Edge.INDEX);
            Edge.bounds(EdgesOfCastles::oneCut, (game, tower) -> game.cut(1, tower, 0, true), 0, false, 6, false, Edge.INDEX);
        });
        Edge.of("`lord`: the lord, 0 to 3",
            () -> Edge.lords(EdgesOfCastles::oneCut, (game, lord) -> game.cut(0, 0, lord, true), true, false));
    }

    private static void cutAnswers() {
        Edge.of("`is`: whether the link is cut from now on", () -> {
            Castlequorum game = new Castlequorum();
            game.cut(0, 0, 0, true);
            game.cut(0, 0, 0, true);
            Check.due("cut twice", game.near(0, 0), 2);
            game.cut(0, 0, 0, false);
            Check.due("mended once", game.near(0, 0), 3);
            game.cut(0, 0, 0, false);
            Check.due("mended twice", game.near(0, 0), 3);
            game.fall(0, 0);
            game.cut(0, 0, 0, true);
            game.rise(0, 0);
            Check.due("cut while it was down", game.near(0, 0), 2);
            game.wait(100);
            Check.due("later", game.near(0, 0), 2);
            game.lease(1, 0, 0, 5);
            game.cut(0, 1, 1, true);
            Check.due("a vote for that lord stays", game.voteOf(0, 1, 0), 1);
        });
        Edge.of("Returns whether it was cut.", () -> {
            Castlequorum game = new Castlequorum();
            Check.due("cut, at first", game.cut(1, 2, 3, true), false);
            Check.due("cut, again", game.cut(1, 2, 3, true), true);
            Check.due("mended", game.cut(1, 2, 3, false), true);
            Check.due("mended again", game.cut(1, 2, 3, false), false);
            Check.due("cut when it is mended", game.cut(1, 2, 3, true), false);
            game.burn(1, 2);
            Check.due("of a tower that has burnt", game.cut(1, 2, 3, true), true);
            game.build(1, 3, 100);
            Check.due("when the castle is built anew", game.cut(1, 2, 3, true), false);
        });
        Edge.of("Throws `IndexOutOfBoundsException` if there is no such castle, tower or lord", () -> {
            Castlequorum game = oneCut();
            for (boolean is : new boolean[] {false, true}) {
                Check.refused("castle 2", game, Edge.INDEX, () -> game.cut(2, 0, 0, is));
                Check.refused("castle -1", game, Edge.INDEX, () -> game.cut(-1, 0, 0, is));
                Check.refused("tower 3", game, Edge.INDEX, () -> game.cut(0, 3, 0, is));
                Check.refused("tower 7", game, Edge.INDEX, () -> game.cut(1, 7, 0, is));
                Check.refused("tower -1", game, Edge.INDEX, () -> game.cut(0, -1, 0, is));
                Check.refused("lord 4", game, Edge.INDEX, () -> game.cut(0, 0, 4, is));
                Check.refused("lord -1", game, Edge.INDEX, () -> game.cut(0, 0, -1, is));
            }
        });
    }
}
