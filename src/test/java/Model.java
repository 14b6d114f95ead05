import java.util.ArrayList;
import java.util.HashMap;
import java.util.HashSet;
import java.util.List;
import java.util.Map;
import java.util.NoSuchElementException;
import java.util.Set;

/**
 * The document told a second time, with sets and maps instead of masks and rows, so that a slip in
 * the one is not a slip in the other. ModelTest plays both against each other.
 */
final class Model {
    private static final class Vote {
        int lord;
        int till;
    }

    private static final class Entry {
        char letter;
        int amount;
        int lord;
        int truce;
        boolean committed;
        boolean struck;
        final Set<Integer> at = new HashSet<>();
    }

    private static final class Fort {
        int towers;
        int gold;
        final Set<Integer> down = new HashSet<>();
        final Map<Integer, Integer> risenAt = new HashMap<>();
        final Set<String> cuts = new HashSet<>();
        final Map<String, Vote> votes = new HashMap<>();
        final Map<String, Integer> leases = new HashMap<>();
        final List<Entry> row = new ArrayList<>();
    }

    private static final class Glance {
        int lord;
        int castle;
        int tick;
        Fort fort;
        int count;
        int gold;
    }

    private static final class Pact {
        int from;
        int amount;
        Boolean done;
        final char[] at = {'-', '-'};
    }

    private final Fort[] forts = {fort(3, 100), fort(3, 100)};
    private final List<Glance> glances = new ArrayList<>();
    private final List<Pact> pacts = new ArrayList<>();
    private final int[] wins = new int[4];
    private int tick;

    private static Fort fort(int towers, int gold) {
        Fort fort = new Fort();
        fort.towers = towers;
        fort.gold = gold;
        return fort;
    }

    private static void index(int number, int bound) {
        if (number < 0 || number >= bound) {
            throw new IndexOutOfBoundsException();
        }
    }

    private static void range(int number, int least, int most) {
        if (number < least || number > most) {
            throw new IllegalArgumentException();
        }
    }

    private static void can(boolean is) {
        if (!is) {
            throw new UnsupportedOperationException();
        }
    }

    private static void room(boolean is) {
        if (!is) {
            throw new IllegalStateException();
        }
    }

    private Fort fortAt(int castle) {
        index(castle, 2);
        return forts[castle];
    }

    private Fort fortWith(int castle, int tower) {
        Fort fort = fortAt(castle);
        index(tower, fort.towers);
        return fort;
    }

    private static boolean quorum(Fort fort, Set<Integer> towers) {
        return towers.size() > fort.towers - towers.size();
    }

    private static Set<Integer> ups(Fort fort) {
        Set<Integer> ups = new HashSet<>();
        for (int tower = 0; tower < fort.towers; tower++) {
            if (!fort.down.contains(tower)) {
                ups.add(tower);
            }
        }
        return ups;
    }

    private static Set<Integer> nears(Fort fort, int lord) {
        Set<Integer> nears = ups(fort);
        nears.removeIf(tower -> fort.cuts.contains(lord + "/" + tower));
        return nears;
    }

    private boolean waits(Fort fort, int tower) {
        return fort.risenAt.containsKey(tower) && tick - fort.risenAt.get(tower) < 20;
    }

    private boolean open(Fort fort, int lord, int gate) {
        return fort.leases.getOrDefault(lord + "/" + gate, 0) > tick;
    }

    private static int counts(Fort fort) {
        int count = 0;
        for (Entry entry : fort.row) {
            if (!entry.committed && !entry.struck) {
                break;
            }
            count++;
        }
        return count;
    }

    private static boolean hangs(Fort fort) {
        return counts(fort) != fort.row.size();
    }

    /** Gold, held gold and the four purses. */
    private int[] told(int castle) {
        Fort fort = forts[castle];
        int[] told = {fort.gold, 0, 0, 0, 0, 0};
        for (Entry entry : fort.row.subList(0, counts(fort))) {
            if (entry.struck) {
                continue;
            }
            boolean from = entry.truce >= 0 && pacts.get(entry.truce).from == castle;
            switch (entry.letter) {
                case 'i' -> {
                    if (told[2 + entry.lord] >= entry.amount) {
                        told[2 + entry.lord] -= entry.amount;
                        told[0] += entry.amount;
                    }
                }
                case 'o', 'r' -> {
                    if (told[0] - told[1] >= entry.amount) {
                        told[0] -= entry.amount;
                        told[2 + entry.lord] += entry.amount;
                    }
                }
                case 'p' -> told[1] += from ? entry.amount : 0;
                case 'd' -> {
                    told[0] += from ? -entry.amount : entry.amount;
                    told[1] -= from ? entry.amount : 0;
                }
                default -> told[1] -= from ? entry.amount : 0;
            }
        }
        return told;
    }

    private int write(Fort fort, char letter, int amount, int lord, int truce, Set<Integer> towers) {
        Entry entry = new Entry();
        entry.letter = letter;
        entry.amount = amount;
        entry.lord = lord;
        entry.truce = truce;
        entry.at.addAll(towers);
        entry.committed = quorum(fort, entry.at);
        fort.row.add(entry);
        return fort.row.size() - 1;
    }

    private int preparedAt(int castle) {
        for (int truce = 0; truce < pacts.size(); truce++) {
            if (pacts.get(truce).at[castle] == 'p') {
                return truce;
            }
        }
        return -1;
    }

    int sights() {
        return glances.size();
    }

    int[] sightOf(int sight) {
        return new int[] {glances.get(sight).lord, glances.get(sight).castle};
    }

    int truces() {
        return pacts.size();
    }

    int build(int castle, int towers, int gold) {
        int had = fortAt(castle).row.size();
        range(towers, 1, 7);
        range(gold, 0, 9999);
        can(preparedAt(castle) < 0);
        forts[castle] = fort(towers, gold);
        return had;
    }

    int wait(int ticks) {
        range(ticks, 1, 100);
        tick += ticks;
        return tick;
    }

    boolean fall(int castle, int tower) {
        Fort fort = fortWith(castle, tower);
        for (int gate = 0; gate < 3; gate++) {
            fort.votes.remove(tower + "/" + gate);
        }
        return fort.down.add(tower);
    }

    int burn(int castle, int tower) {
        fall(castle, tower);
        int had = 0;
        for (Entry entry : forts[castle].row) {
            had += entry.at.remove(tower) ? 1 : 0;
        }
        return had;
    }

    boolean rise(int castle, int tower) {
        Fort fort = fortWith(castle, tower);
        if (fort.down.remove(tower)) {
            fort.risenAt.put(tower, tick);
            return true;
        }
        return false;
    }

    boolean cut(int castle, int tower, int lord, boolean is) {
        Fort fort = fortWith(castle, tower);
        index(lord, 4);
        boolean was = fort.cuts.remove(lord + "/" + tower);
        if (is) {
            fort.cuts.add(lord + "/" + tower);
        }
        return was;
    }

    int lease(int lord, int castle, int gate, int ticks) {
        Fort fort = fortAt(castle);
        index(gate, 3);
        index(lord, 4);
        range(ticks, 1, 20);
        Set<Integer> voters = nears(fort, lord);
        voters.removeIf(tower -> waits(fort, tower));
        voters.removeIf(tower -> {
            Vote vote = fort.votes.get(tower + "/" + gate);
            return vote != null && vote.till > tick && vote.lord != lord;
        });
        can(quorum(fort, voters));
        for (int tower : voters) {
            Vote old = fort.votes.get(tower + "/" + gate);
            Vote vote = new Vote();
            vote.lord = lord;
            vote.till = old != null && old.lord == lord && old.till > tick + ticks ? old.till : tick + ticks;
            fort.votes.put(tower + "/" + gate, vote);
        }
        return fort.leases.merge(lord + "/" + gate, tick + ticks, Math::max);
    }

    int giveUp(int lord, int castle, int gate) {
        Fort fort = fortAt(castle);
        index(gate, 3);
        index(lord, 4);
        can(open(fort, lord, gate));
        fort.leases.remove(lord + "/" + gate);
        int ended = 0;
        for (int tower : nears(fort, lord)) {
            Vote vote = fort.votes.get(tower + "/" + gate);
            if (vote != null && vote.lord == lord) {
                ended += vote.till > tick ? 1 : 0;
                fort.votes.remove(tower + "/" + gate);
            }
        }
        return ended;
    }

    int leaseOf(int lord, int castle, int gate) {
        Fort fort = fortAt(castle);
        index(gate, 3);
        index(lord, 4);
        return fort.leases.getOrDefault(lord + "/" + gate, 0);
    }

    int openFor(int castle, int gate) {
        Fort fort = fortAt(castle);
        index(gate, 3);
        for (int lord = 0; lord < 4; lord++) {
            if (open(fort, lord, gate)) {
                return lord;
            }
        }
        throw new NoSuchElementException();
    }

    private Vote vote(int castle, int tower, int gate) {
        Fort fort = fortWith(castle, tower);
        index(gate, 3);
        Vote vote = fort.votes.get(tower + "/" + gate);
        if (vote == null || vote.till <= tick) {
            throw new NoSuchElementException();
        }
        return vote;
    }

    int voteOf(int castle, int tower, int gate) {
        return vote(castle, tower, gate).lord;
    }

    int voteTill(int castle, int tower, int gate) {
        return vote(castle, tower, gate).till;
    }

    int near(int lord, int castle) {
        Fort fort = fortAt(castle);
        index(lord, 4);
        return nears(fort, lord).size();
    }

    char tower(int castle, int tower) {
        Fort fort = fortWith(castle, tower);
        return fort.down.contains(tower) ? 'd' : waits(fort, tower) ? 'w' : 'u';
    }

    int order(int lord, int castle, int gate, boolean isIn, int amount) {
        Fort fort = fortAt(castle);
        index(gate, 3);
        index(lord, 4);
        range(amount, 1, 999);
        can(open(fort, lord, gate));
        int[] told = told(castle);
        can(amount <= (isIn ? told[2 + lord] : told[0] - told[1]));
        can(!nears(fort, lord).isEmpty());
        room(fort.row.size() < 60);
        return write(fort, isIn ? 'i' : 'o', amount, lord, -1, nears(fort, lord));
    }

    int spread(int castle) {
        Fort fort = fortAt(castle);
        int got = 0;
        for (Entry entry : fort.row) {
            Set<Integer> seen = ups(fort);
            seen.retainAll(entry.at);
            if (!seen.isEmpty()) {
                for (int tower : ups(fort)) {
                    got += entry.at.add(tower) ? 1 : 0;
                }
            }
            entry.committed |= quorum(fort, entry.at);
        }
        return got;
    }

    int strike(int castle) {
        Fort fort = fortAt(castle);
        List<Entry> lost = new ArrayList<>(fort.row.subList(counts(fort), fort.row.size()));
        lost.removeIf(entry -> entry.struck || !entry.at.isEmpty());
        for (Entry entry : lost) {
            entry.struck = true;
        }
        return lost.size();
    }

    int entries(int castle) {
        return fortAt(castle).row.size();
    }

    int counting(int castle) {
        return counts(fortAt(castle));
    }

    private Entry entry(int castle, int entry) {
        Fort fort = fortAt(castle);
        index(entry, fort.row.size());
        return fort.row.get(entry);
    }

    char entryOf(int castle, int entry) {
        return entry(castle, entry).struck ? '-' : entry(castle, entry).letter;
    }

    int amountOf(int castle, int entry) {
        return entry(castle, entry).amount;
    }

    boolean isCommitted(int castle, int entry) {
        return entry(castle, entry).committed;
    }

    boolean has(int castle, int tower, int entry) {
        fortWith(castle, tower);
        return entry(castle, entry).at.contains(tower);
    }

    int gold(int castle, boolean isHeld) {
        fortAt(castle);
        return told(castle)[isHeld ? 1 : 0];
    }

    int purse(int lord, int castle) {
        fortAt(castle);
        index(lord, 4);
        return told(castle)[2 + lord];
    }

    int scout(int lord, int castle) {
        Fort fort = fortAt(castle);
        index(lord, 4);
        can(quorum(fort, nears(fort, lord)));
        room(glances.size() < 20);
        Glance glance = new Glance();
        glance.lord = lord;
        glance.castle = castle;
        glance.tick = tick;
        glance.fort = fort;
        glance.count = counts(fort);
        glance.gold = told(castle)[0] - told(castle)[1];
        glances.add(glance);
        return glances.size() - 1;
    }

    private boolean old(Glance glance) {
        return tick - glance.tick >= 10 || forts[glance.castle] != glance.fort;
    }

    int read(int sight, boolean isCount) {
        index(sight, glances.size());
        Glance glance = glances.get(sight);
        can(!old(glance));
        return isCount ? glance.count : glance.gold;
    }

    char raid(int sight, int gate) {
        index(sight, glances.size());
        index(gate, 3);
        Glance glance = glances.get(sight);
        Fort fort = forts[glance.castle];
        room(fort.row.size() < 60);
        if (old(glance)) {
            return 'o';
        }
        if (!open(fort, glance.lord, gate)) {
            return 'g';
        }
        Set<Integer> nears = nears(fort, glance.lord);
        if (!quorum(fort, nears)) {
            return 'q';
        }
        if (hangs(fort) || fort.row.size() != glance.count) {
            return 's';
        }
        write(fort, 'r', glance.gold >> 1, glance.lord, -1, nears);
        wins[glance.lord]++;
        return 'w';
    }

    int won(int lord) {
        index(lord, 4);
        return wins[lord];
    }

    int truce(int from, int amount) {
        fortAt(from);
        range(amount, 1, 999);
        room(pacts.size() < 8);
        Pact pact = new Pact();
        pact.from = from;
        pact.amount = amount;
        pacts.add(pact);
        return pacts.size() - 1;
    }

    int prepare(int truce, int castle, int lord) {
        index(truce, pacts.size());
        Fort fort = fortAt(castle);
        index(lord, 4);
        Pact pact = pacts.get(truce);
        can(pact.at[castle] == '-' && pact.done == null && preparedAt(castle) < 0 && !hangs(fort));
        Set<Integer> nears = nears(fort, lord);
        int[] told = told(castle);
        can(quorum(fort, nears) && (pact.from != castle || told[0] - told[1] >= pact.amount));
        room(fort.row.size() < 60);
        pact.at[castle] = 'p';
        return write(fort, 'p', pact.amount, lord, truce, nears);
    }

    int decide(int truce, boolean isDone) {
        index(truce, pacts.size());
        Pact pact = pacts.get(truce);
        int prepared = (pact.at[0] == '-' ? 0 : 1) + (pact.at[1] == '-' ? 0 : 1);
        can(pact.done == null && (!isDone || prepared == 2));
        pact.done = isDone;
        return prepared;
    }

    int settle(int castle) {
        Fort fort = fortAt(castle);
        int truce = preparedAt(castle);
        can(truce >= 0 && pacts.get(truce).done != null && quorum(fort, ups(fort)) && !hangs(fort));
        room(fort.row.size() < 60);
        Pact pact = pacts.get(truce);
        pact.at[castle] = pact.done ? 'd' : 'a';
        write(fort, pact.at[castle], pact.amount, 0, truce, ups(fort));
        return truce;
    }

    char truceOf(int truce, int castle) {
        index(truce, pacts.size());
        fortAt(castle);
        return pacts.get(truce).at[castle];
    }

    int time() {
        return tick;
    }

    long checksum() {
        long sum = 7;
        for (int castle = 0; castle < 2; castle++) {
            int[] told = told(castle);
            sum = sum * 31 + told[0];
            for (int lord = 0; lord < 4; lord++) {
                sum = sum * 31 + told[2 + lord];
            }
        }
        return sum;
    }

    float upShare(int castle) {
        Fort fort = fortAt(castle);
        return (float) ups(fort).size() / (float) fort.towers;
    }

    double meanEntries(int castle) {
        Fort fort = fortAt(castle);
        int sum = 0;
        for (Entry entry : fort.row) {
            sum += entry.at.size();
        }
        return (double) sum / (double) fort.towers;
    }

    boolean isSound() {
        for (int castle = 0; castle < 2; castle++) {
            for (int gate = 0; gate < 3; gate++) {
                int lords = 0;
                for (int lord = 0; lord < 4; lord++) {
                    lords += open(forts[castle], lord, gate) ? 1 : 0;
                }
                if (lords > 1) {
                    return false;
                }
            }
            int[] told = told(castle);
            int sum = told[0] + told[2] + told[3] + told[4] + told[5];
            int due = forts[castle].gold;
            for (Entry entry : forts[castle].row) {
                if (entry.letter == 'd') {
                    due += pacts.get(entry.truce).from == castle ? -entry.amount : entry.amount;
                }
            }
            if (sum != due || told[1] < 0 || told[1] > told[0]) {
                return false;
            }
            for (int lord = 0; lord < 4; lord++) {
                if (told[2 + lord] < 0) {
                    return false;
                }
            }
        }
        return true;
    }
}
