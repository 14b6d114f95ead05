import java.util.function.Supplier;

/** The sentences of the Terms on exceptions: for each call, and each exception that it names. */
final class TermsOfExceptions {
    private TermsOfExceptions() {
    }

    static void play() {
        Edge.of("A method that throws an exception changes nothing.", () -> {
            nothingOfCastlesAndGates();
            nothingOfEntriesAndSights();
            nothingOfTruces();
        });
        Edge.of("If several exceptions apply, the one that is listed first is thrown.", () -> {
            numbersAheadOfAll();
            rangesAheadOfWhatCannotBe();
            whatCannotBeAheadOfFullRows();
        });
    }

    /** The call is made on one of two games that are the same; whatever is asked and told then is answered alike by both. */
    private static void nothing(Supplier<Castlequorum> scene, Class<? extends RuntimeException> due, String name,
            Object... arguments) {
        Castlequorum touched = scene.get();
        Castlequorum untouched = scene.get();
        String call = name + java.util.Arrays.toString(arguments);
        Check.due(call, Picture.ask(touched, name, arguments), due.getSimpleName());
        Check.due("all after " + call, afterwards(touched), afterwards(untouched));
    }

    private static String afterwards(Castlequorum game) {
        StringBuilder text = new StringBuilder(Picture.of(game));
        for (int truce = 0; truce < 9; truce++) {
            for (int castle = 0; castle < 2; castle++) {
                tell(text, game, "prepare", truce, castle, 1);
            }
            tell(text, game, "decide", truce, true);
            tell(text, game, "decide", truce, false);
            tell(text, game, "settle", 0);
            tell(text, game, "settle", 1);
        }
        for (int castle = 0; castle < 2; castle++) {
            for (int tower = 0; tower < Scene.towers(game, castle); tower++) {
                for (int lord = 0; lord < 4; lord++) {
                    tell(text, game, "cut", castle, tower, lord, false);
                }
                tell(text, game, "rise", castle, tower);
            }
        }
        tellGates(text, game);
        tell(text, game, "wait", 9);
        text.append(Picture.of(game));
        tell(text, game, "wait", 11);
        tellGates(text, game);
        for (int castle = 0; castle < 2; castle++) {
            tell(text, game, "spread", castle);
            tell(text, game, "truce", castle, 3);
            tell(text, game, "build", castle, 2, 77);
        }
        return text.append(Picture.of(game)).toString();
    }

    private static void tellGates(StringBuilder text, Castlequorum game) {
        for (int castle = 0; castle < 2; castle++) {
            for (int gate = 0; gate < 3; gate++) {
                for (int lord = 3; lord >= 0; lord--) {
                    tell(text, game, "lease", lord, castle, gate, 2 + lord);
                    tell(text, game, "order", lord, castle, gate, true, 1);
                    tell(text, game, "order", lord, castle, gate, false, 1);
                }
            }
            tell(text, game, "scout", castle, castle);
            tell(text, game, "raid", castle, castle);
            tell(text, game, "strike", castle);
        }
    }

    private static void tell(StringBuilder text, Castlequorum game, String name, Object... arguments) {
        text.append(name).append('=').append(Picture.ask(game, name, arguments)).append('\n');
    }

    /** Castle 0 has 60 entries, and truce 0 is prepared there and not decided; truce 1 is only begun. */
    private static Castlequorum full() {
        Castlequorum game = Scene.filled(59);
        game.truce(0, 10);
        game.truce(0, 10);
        game.prepare(0, 0, 0);
        game.scout(0, 0);
        return game;
    }

    /** As full, and truce 0 is decided. */
    private static Castlequorum fullAndDecided() {
        Castlequorum game = full();
        game.decide(0, false);
        return game;
    }

    /** Castle 0 has 60 entries and no truce; truces of 10 and 999 from it are begun. */
    private static Castlequorum fullAndFree() {
        Castlequorum game = Scene.filled(60);
        game.truce(0, 10);
        game.truce(0, 999);
        return game;
    }

    /** Castle 0 has 60 entries, and the last of them hangs; truce 0 is prepared there and decided. */
    private static Castlequorum fullAndHanging() {
        Castlequorum game = Scene.filled(58);
        game.truce(0, 10);
        game.prepare(0, 0, 0);
        game.decide(0, false);
        Scene.orderTo(game, 0, 1);
        return game;
    }

    private static Castlequorum manySights() {
        Castlequorum game = Scene.unlike();
        for (int sight = 2; sight < 20; sight++) {
            game.scout(0, 0);
        }
        return game;
    }

    private static Castlequorum manyTruces() {
        Castlequorum game = Scene.unlike();
        for (int truce = 1; truce < 8; truce++) {
            game.truce(truce % 2, 5);
        }
        return game;
    }

    /** At castle 0 only tower 0 is up, and it is cut off from lord 0, who has the lease of gate 0 there. */
    private static Castlequorum fallen() {
        Castlequorum game = Scene.unlike();
        game.fall(0, 1);
        game.burn(0, 2);
        game.cut(0, 0, 0, true);
        return game;
    }

    private static void nothingOfCastlesAndGates() {
        Supplier<Castlequorum> scene = Scene::unlike;
        nothing(scene, Edge.INDEX, "build", 2, 3, 100);
        nothing(scene, Edge.ARGUMENT, "build", 0, 8, 100);
        nothing(scene, Edge.ARGUMENT, "build", 0, 3, 10000);
        nothing(scene, Edge.CANNOT, "build", 1, 3, 100);
        nothing(scene, Edge.ARGUMENT, "wait", 101);
        nothing(scene, Edge.ARGUMENT, "wait", 0);
        nothing(scene, Edge.INDEX, "fall", 2, 0);
        nothing(scene, Edge.INDEX, "fall", 0, 3);
        nothing(scene, Edge.INDEX, "burn", -1, 0);
        nothing(scene, Edge.INDEX, "burn", 0, 3);
        nothing(fallenScene(), Edge.INDEX, "rise", 0, -1);
        nothing(fallenScene(), Edge.INDEX, "rise", 2, 1);
        nothing(scene, Edge.INDEX, "cut", 0, 0, 4, true);
        nothing(scene, Edge.INDEX, "cut", 0, 3, 0, true);
        nothing(scene, Edge.INDEX, "cut", 2, 0, 0, true);
        nothing(scene, Edge.INDEX, "lease", 4, 0, 1, 10);
        nothing(scene, Edge.INDEX, "lease", 0, 0, 3, 10);
        nothing(scene, Edge.ARGUMENT, "lease", 0, 0, 0, 21);
        nothing(scene, Edge.CANNOT, "lease", 1, 0, 0, 20);
        nothing(fallenScene(), Edge.CANNOT, "lease", 0, 0, 0, 20);
        nothing(scene, Edge.INDEX, "giveUp", 0, 0, 3);
        nothing(scene, Edge.CANNOT, "giveUp", 1, 0, 0);
        nothing(scene, Edge.INDEX, "leaseOf", 0, 0, 3);
        nothing(scene, Edge.INDEX, "openFor", 0, 3);
        nothing(scene, Edge.NOBODY, "openFor", 0, 1);
        nothing(scene, Edge.INDEX, "voteOf", 0, 3, 0);
        nothing(scene, Edge.NOBODY, "voteOf", 0, 0, 1);
        nothing(scene, Edge.INDEX, "voteTill", 0, 3, 0);
        nothing(scene, Edge.NOBODY, "voteTill", 0, 0, 1);
        nothing(scene, Edge.INDEX, "near", 4, 0);
        nothing(scene, Edge.INDEX, "tower", 0, 3);
    }

    private static Supplier<Castlequorum> fallenScene() {
        return TermsOfExceptions::fallen;
    }

    private static void nothingOfEntriesAndSights() {
        Supplier<Castlequorum> scene = Scene::unlike;
        nothing(scene, Edge.INDEX, "order", 4, 0, 0, false, 1);
        nothing(scene, Edge.ARGUMENT, "order", 0, 0, 0, false, 1000);
        nothing(scene, Edge.CANNOT, "order", 0, 0, 1, false, 1);
        nothing(scene, Edge.CANNOT, "order", 0, 0, 0, false, 71);
        nothing(scene, Edge.CANNOT, "order", 0, 0, 0, true, 31);
        nothing(fallenScene(), Edge.CANNOT, "order", 0, 0, 0, false, 1);
        nothing(TermsOfExceptions::full, Edge.FULL, "order", 0, 0, 0, false, 1);
        nothing(scene, Edge.INDEX, "spread", 2);
        nothing(scene, Edge.INDEX, "strike", -1);
        for (String name : new String[] {"entries", "counting", "upShare", "meanEntries"}) {
            nothing(scene, Edge.INDEX, name, 2);
        }
        for (String name : new String[] {"entryOf", "amountOf", "isCommitted"}) {
            nothing(scene, Edge.INDEX, name, 0, 1);
        }
        nothing(scene, Edge.INDEX, "has", 0, 3, 0);
        nothing(scene, Edge.INDEX, "gold", 2, false);
        nothing(scene, Edge.INDEX, "purse", 4, 0);
        nothing(scene, Edge.INDEX, "scout", 4, 0);
        nothing(fallenScene(), Edge.CANNOT, "scout", 0, 0);
        nothing(TermsOfExceptions::manySights, Edge.FULL, "scout", 0, 0);
        nothing(scene, Edge.INDEX, "read", 2, true);
        nothing(TermsOfExceptions::old, Edge.CANNOT, "read", 0, true);
        nothing(scene, Edge.INDEX, "raid", 2, 0);
        nothing(scene, Edge.INDEX, "raid", 0, 3);
        nothing(TermsOfExceptions::full, Edge.FULL, "raid", 0, 0);
        nothing(scene, Edge.INDEX, "won", 4);
    }

    private static Castlequorum old() {
        Castlequorum game = Scene.unlike();
        game.wait(10);
        return game;
    }

    private static void nothingOfTruces() {
        Supplier<Castlequorum> scene = Scene::unlike;
        nothing(scene, Edge.INDEX, "truce", 2, 10);
        nothing(scene, Edge.ARGUMENT, "truce", 0, 1000);
        nothing(TermsOfExceptions::manyTruces, Edge.FULL, "truce", 0, 10);
        nothing(scene, Edge.INDEX, "prepare", 1, 0, 0);
        nothing(scene, Edge.INDEX, "prepare", 0, 0, 4);
        nothing(scene, Edge.CANNOT, "prepare", 0, 1, 0);
        nothing(fallenScene(), Edge.CANNOT, "prepare", 0, 0, 0);
        nothing(TermsOfExceptions::fullAndFree, Edge.FULL, "prepare", 0, 0, 0);
        nothing(scene, Edge.INDEX, "decide", 1, true);
        nothing(scene, Edge.CANNOT, "decide", 0, true);
        nothing(TermsOfExceptions::fullAndDecided, Edge.CANNOT, "decide", 0, false);
        nothing(scene, Edge.INDEX, "settle", 2);
        nothing(scene, Edge.CANNOT, "settle", 1);
        nothing(TermsOfExceptions::fullAndDecided, Edge.FULL, "settle", 0);
        nothing(scene, Edge.INDEX, "truceOf", 0, 2);
    }

    private static void first(Supplier<Castlequorum> scene, Class<? extends RuntimeException> due, String name,
            Object... arguments) {
        Check.due(name + java.util.Arrays.toString(arguments), Picture.ask(scene.get(), name, arguments),
            due.getSimpleName());
    }

    private static void numbersAheadOfAll() {
        Supplier<Castlequorum> full = TermsOfExceptions::full;
        first(Scene::unlike, Edge.INDEX, "build", 2, 8, -1);
        first(Scene::unlike, Edge.INDEX, "lease", 4, 0, 0, 0);
        first(Scene::unlike, Edge.INDEX, "lease", 0, 0, 3, 21);
        first(fallenScene(), Edge.INDEX, "lease", 4, 0, 0, 5);
        first(fallenScene(), Edge.INDEX, "lease", 0, 0, 3, 5);
        first(Scene::unlike, Edge.INDEX, "giveUp", 4, 0, 1);
        first(Scene::unlike, Edge.INDEX, "openFor", 0, 3);
        first(Scene::unlike, Edge.INDEX, "voteOf", 0, 3, 1);
        first(Scene::unlike, Edge.INDEX, "voteTill", 0, 0, 3);
        first(Scene::unlike, Edge.INDEX, "order", 4, 0, 0, false, 0);
        first(Scene::unlike, Edge.INDEX, "order", 0, 0, 3, false, 1000);
        first(Scene::unlike, Edge.INDEX, "order", 0, 2, 0, true, 5);
        first(fallenScene(), Edge.INDEX, "order", 4, 0, 1, false, 5);
        first(full, Edge.INDEX, "order", 0, 0, 3, false, 1);
        first(fallenScene(), Edge.INDEX, "scout", 4, 0);
        first(TermsOfExceptions::manySights, Edge.INDEX, "scout", 0, 2);
        first(full, Edge.INDEX, "raid", 0, 3);
        first(full, Edge.INDEX, "raid", 1, 0);
        first(Scene::unlike, Edge.INDEX, "truce", 2, 0);
        first(TermsOfExceptions::manyTruces, Edge.INDEX, "truce", -1, 5);
        first(Scene::unlike, Edge.INDEX, "prepare", 0, 1, 4);
        first(fallenScene(), Edge.INDEX, "prepare", 1, 0, 0);
        first(full, Edge.INDEX, "prepare", 1, 0, -1);
        first(full, Edge.INDEX, "prepare", 2, 0, 0);
    }

    private static void rangesAheadOfWhatCannotBe() {
        first(Scene::unlike, Edge.ARGUMENT, "build", 1, 0, 100);
        first(Scene::unlike, Edge.ARGUMENT, "build", 1, 3, 10000);
        first(Scene::unlike, Edge.ARGUMENT, "lease", 1, 0, 0, 0);
        first(fallenScene(), Edge.ARGUMENT, "lease", 1, 0, 0, 21);
        first(Scene::unlike, Edge.ARGUMENT, "order", 1, 0, 0, false, 0);
        first(Scene::unlike, Edge.ARGUMENT, "order", 0, 0, 0, false, 1000);
        first(fallenScene(), Edge.ARGUMENT, "order", 0, 0, 0, true, 0);
        first(TermsOfExceptions::full, Edge.ARGUMENT, "order", 0, 0, 0, false, 0);
        first(TermsOfExceptions::manyTruces, Edge.ARGUMENT, "truce", 0, 1000);
    }

    private static void whatCannotBeAheadOfFullRows() {
        first(TermsOfExceptions::full, Edge.CANNOT, "order", 0, 0, 1, false, 1);
        first(TermsOfExceptions::full, Edge.CANNOT, "order", 0, 0, 0, false, 900);
        first(TermsOfExceptions::full, Edge.CANNOT, "order", 0, 0, 0, true, 900);
        first(() -> {
            Castlequorum game = full();
            Scene.nearOnly(game, 0, 0, 0);
            return game;
        }, Edge.CANNOT, "order", 0, 0, 0, false, 1);
        first(() -> {
            Castlequorum game = manySights();
            game.fall(0, 1);
            game.fall(0, 2);
            return game;
        }, Edge.CANNOT, "scout", 0, 0);
        first(TermsOfExceptions::full, Edge.CANNOT, "prepare", 0, 0, 0);
        first(TermsOfExceptions::full, Edge.CANNOT, "prepare", 1, 0, 0);
        first(TermsOfExceptions::fullAndFree, Edge.CANNOT, "prepare", 1, 0, 0);
        first(() -> {
            Castlequorum game = fullAndFree();
            game.decide(0, false);
            return game;
        }, Edge.CANNOT, "prepare", 0, 0, 0);
        first(() -> {
            Castlequorum game = fullAndFree();
            Scene.nearOnly(game, 0, 0, 1);
            return game;
        }, Edge.CANNOT, "prepare", 0, 0, 0);
        first(() -> {
            Castlequorum game = Scene.filled(59);
            game.truce(0, 10);
            Scene.orderTo(game, 0, 1);
            return game;
        }, Edge.CANNOT, "prepare", 0, 0, 1);
        first(TermsOfExceptions::fullAndHanging, Edge.CANNOT, "settle", 0);
        first(TermsOfExceptions::full, Edge.CANNOT, "settle", 0);
        first(TermsOfExceptions::fullAndFree, Edge.CANNOT, "settle", 0);
        first(() -> {
            Castlequorum game = fullAndDecided();
            Scene.upOnly(game, 0, 1);
            return game;
        }, Edge.CANNOT, "settle", 0);
    }
}
