import java.util.Map;
import java.util.Random;
import java.util.TreeMap;

/**
 * Runs of calls on a Castlequorum and on the Model at once: all answers, and now and then, and after
 * each call that threw, the whole pictures must be the same. The seeds are fixed: it plays the same each time.
 */
public final class ModelTest {
    private static final int CALLS = 512;

    /** A call's name, how often it is drawn, and a letter for what each argument is. */
    private static final String[] CALLS_OF_FACE = {
        "build 1 CNZ", "wait 8 W", "fall 5 CT", "burn 4 CT", "rise 9 CT", "cut 10 CTLB", "lease 16 LCGK",
        "giveUp 2 LCG", "leaseOf 1 LCG", "openFor 1 CG", "voteOf 1 CTG", "voteTill 1 CTG", "near 1 LC",
        "tower 1 CT", "order 30 LCGBA", "spread 5 C", "strike 6 C", "entries 1 C", "counting 1 C",
        "entryOf 1 CE", "amountOf 1 CE", "isCommitted 1 CE", "has 1 CTE", "gold 1 CB", "purse 1 LC",
        "scout 5 LC", "read 2 SB", "raid 9 SG", "won 1 L", "truce 1 CA", "prepare 7 QCL", "decide 2 QB",
        "settle 5 C", "truceOf 1 QC", "time 1 ", "checksum 1 ", "upShare 1 C", "meanEntries 1 C", "isSound 1 "
    };
    private static final int[] ODD = {-1, 0, 1, 2, 3, 4, 7, 8, 20, 21, 60, 61, 100, 101, 999, 1000, 9999, 10000,
        Integer.MAX_VALUE, Integer.MIN_VALUE};

    private static final Map<String, Integer> TOLD = new TreeMap<>();
    private static int wrong = 0;

    public static void main(String[] arguments) {
        int runs = arguments.length > 0 ? Integer.parseInt(arguments[0]) : 400;
        for (int run = 0; run < runs && wrong < 20; run++) {
            play(run);
        }
        // a kind of answer that the runs never reach is a promise that they never test
        for (String call : CALLS_OF_FACE) {
            String name = call.split(" ")[0];
            if (!TOLD.containsKey(name)) {
                fail(name + " never answered");
            }
        }
        for (String kind : new String[] {"raid o", "raid g", "raid q", "raid s", "raid w", "strike more", "truceOf d",
            "truceOf a", "truceOf p", "order IllegalStateException", "settle UnsupportedOperationException"}) {
            if (!TOLD.containsKey(kind)) {
                fail(kind + " never came of it");
            }
        }
        if (arguments.length > 0) {
            System.out.println(TOLD);
        }
        System.out.println(runs + " runs, " + wrong + " wrong");
        if (wrong != 0) {
            System.exit(1);
        }
    }

    private static void fail(String line) {
        wrong++;
        System.out.println(line);
    }

    private static void play(int run) {
        Random random = new Random(run);
        Castlequorum game = new Castlequorum();
        Model model = new Model();
        StringBuilder told = new StringBuilder();
        int oddness = run % 4 == 0 ? 12 : run % 4 == 1 ? 60 : 1000;
        // calm runs let leases, raids and truces come to their ends, and rows grow full
        int calm = run % 5;
        // bent runs tell many orders, or burn and strike much
        int bent = run % 3;
        for (int call = 0; call < CALLS; call++) {
            String[] drawn = draw(random, calm, bent);
            Object[] values = new Object[drawn[1].length()];
            for (int at = 0; at < values.length; at++) {
                values[at] = argument(drawn[1].charAt(at), random, oddness);
            }
            if (random.nextInt(5) > 0) {
                aim(drawn[0], values, model, random);
            }
            String got = Picture.ask(game, drawn[0], values);
            String due = Picture.ask(model, drawn[0], values);
            count(drawn[0], due);
            told.append(drawn[0]).append(java.util.Arrays.toString(values)).append(" = ").append(due).append('\n');
            if (!got.equals(due)) {
                fail("run " + run + ": answered " + got + ", due is the last row's answer\n" + told);
                return;
            }
            boolean isLooked = call % 32 == 31 || due.endsWith("Exception") && random.nextInt(8) == 0;
            if (isLooked && !Picture.of(game).equals(Picture.of(model))) {
                fail("run " + run + ": the picture is wrong after\n" + told);
                return;
            }
        }
    }

    /** Turns a call to where something can come of it: blind draws are refused nearly always. */
    private static void aim(String name, Object[] values, Model model, Random random) {
        switch (name) {
            case "order", "giveUp" -> {
                for (int gate = 0; gate < 3; gate++) {
                    String lord = Picture.ask(model, "openFor", values[1], gate);
                    if (lord.length() == 1) {
                        values[0] = Integer.parseInt(lord);
                        values[2] = gate;
                    }
                }
            }
            case "raid" -> {
                int sights = model.sights();
                if (sights > 0) {
                    values[0] = Math.max(0, sights - 1 - random.nextInt(2));
                    int[] lordAndCastle = model.sightOf((int) values[0]);
                    for (int gate = 0; gate < 3; gate++) {
                        if (Picture.ask(model, "openFor", lordAndCastle[1], gate).equals("" + lordAndCastle[0])) {
                            values[1] = gate;
                        }
                    }
                }
            }
            case "read" -> values[0] = Math.max(0, model.sights() - 1 - random.nextInt(3));
            case "prepare", "decide", "truceOf" -> values[0] = Math.max(0, model.truces() - 1 - random.nextInt(2));
            case "entryOf", "amountOf", "isCommitted" -> values[1] = model.entries(castle(values[0])) - random.nextInt(3);
            case "has" -> values[2] = model.entries(castle(values[0])) - random.nextInt(3);
            default -> { }
        }
    }

    private static int castle(Object value) {
        return value.equals(1) ? 1 : 0;
    }

    private static void count(String name, String due) {
        TOLD.merge(name, 1, Integer::sum);
        TOLD.merge(name + " " + (due.length() == 1 && Character.isDigit(due.charAt(0)) ? "0-9"
            : due.length() == 1 || due.endsWith("Exception") ? due : "more"), 1, Integer::sum);
        if (name.equals("strike") && due.length() == 1 && due.charAt(0) > '0') {
            TOLD.merge("strike more", 1, Integer::sum);
        }
    }

    private static int weight(String[] parts, int calm, int bent) {
        int weight = Integer.parseInt(parts[1]);
        if (bent == 0 && parts[0].equals("order")) {
            return weight * 10 * (1 + calm * calm);
        }
        if (bent == 1 && "burn strike".contains(parts[0])) {
            return weight * 4 * (1 + calm * calm);
        }
        return "build fall burn cut".contains(parts[0]) ? weight : weight * (1 + calm * calm);
    }

    private static String[] draw(Random random, int calm, int bent) {
        int sum = 0;
        for (String call : CALLS_OF_FACE) {
            sum += weight(call.split(" "), calm, bent);
        }
        int left = random.nextInt(sum);
        for (String call : CALLS_OF_FACE) {
            String[] parts = call.split(" ");
            left -= weight(parts, calm, bent);
            if (left < 0) {
                return new String[] {parts[0], parts.length > 2 ? parts[2] : ""};
            }
        }
        throw new IllegalStateException("nothing drawn");
    }

    private static Object argument(char kind, Random random, int oddness) {
        if (kind == 'B') {
            return random.nextInt(2) > 0;
        }
        if (random.nextInt(oddness) == 0) {
            return ODD[random.nextInt(ODD.length)];
        }
        return switch (kind) {
            case 'C' -> random.nextInt(2);
            case 'T' -> random.nextInt(random.nextInt(4) == 0 ? 7 : 3);
            case 'L' -> Math.min(random.nextInt(4), random.nextInt(4));
            case 'G' -> Math.min(random.nextInt(3), random.nextInt(3));
            case 'N' -> 1 + random.nextInt(7);
            case 'Z' -> random.nextInt(4) == 0 ? random.nextInt(10000) : 100 + random.nextInt(2000);
            case 'W' -> random.nextInt(10) == 0 ? 1 + random.nextInt(100) : 1 + random.nextInt(5);
            case 'K' -> 1 + random.nextInt(20);
            case 'A' -> 1 + random.nextInt(random.nextInt(6) == 0 ? 999 : 30);
            case 'E' -> random.nextInt(random.nextInt(2) == 0 ? 60 : 10);
            case 'S' -> random.nextInt(random.nextBoolean() ? 20 : 6);
            default -> random.nextInt(8);
        };
    }
}
