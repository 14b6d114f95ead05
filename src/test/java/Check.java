/** Counts the answers that are not as due; a refused call must leave the whole picture as it was. */
final class Check {
    interface Call {
        void run();
    }

    private static String where = "";
    private static int checks = 0;
    private static int wrong = 0;

    private Check() {
    }

    /** What is told of wrong answers from now on begins with this. */
    static void at(String place) {
        where = place.isEmpty() ? "" : place + "\n    ";
    }

    static int made() {
        return checks;
    }

    static void due(String what, long got, long want) {
        checks++;
        if (got != want) {
            tell(what + " answered " + got + ", due is " + want);
        }
    }

    static void due(String what, char got, char want) {
        checks++;
        if (got != want) {
            tell(what + " answered '" + got + "', due is '" + want + "'");
        }
    }

    static void due(String what, boolean got, boolean want) {
        checks++;
        if (got != want) {
            tell(what + " answered " + got + ", due is " + want);
        }
    }

    static void due(String what, double got, double want) {
        checks++;
        if (Double.compare(got, want) != 0) {
            tell(what + " answered " + got + ", due is " + want);
        }
    }

    static void due(String what, String got, String want) {
        checks++;
        if (!got.equals(want)) {
            tell(what + " answered " + got + ", due is " + want);
        }
    }

    /** The class itself is due, none below it: the machine's own exceptions stand below the documented ones. */
    static void refused(String what, Castlequorum game, Class<? extends RuntimeException> due, Call call) {
        String before = Picture.of(game);
        String got = "nothing";
        try {
            call.run();
        } catch (RuntimeException thrown) {
            got = thrown.getClass().getName();
        }
        due(what + " throws", got, due.getName());
        due(what + " changes nothing: the picture", Picture.of(game), before);
    }

    static void end() {
        System.out.println(checks + " checks, " + wrong + " wrong");
        if (wrong != 0 || checks == 0) {
            System.exit(1);
        }
    }

    private static void tell(String line) {
        wrong++;
        System.out.println(where + line);
    }
}
