import java.util.NoSuchElementException;

/** A game of two besieged castles. README.md tells how to use it; shared/DOC.md promises what it does. */
public final class Castlequorum {
    private static final int CASTLES = 2;
    private static final int LORDS = 4;
    private static final int GATES = 3;
    private static final int MOST_TOWERS = 7;
    private static final int MOST_GOLD = 9999;
    private static final int FIRST_TOWERS = 3;
    private static final int FIRST_GOLD = 100;
    private static final int LONGEST_WAIT = 100;
    private static final int LONGEST_LEASE = 20;
    private static final int REST_OF_RISEN = 20;
    private static final int MOST_ENTRIES = 60;
    private static final int MOST_AMOUNT = 999;
    private static final int MOST_SIGHTS = 20;
    private static final int SIGHT_LASTS = 10;
    private static final int MOST_TRUCES = 8;

    private static final char ORDER_IN = 'i';
    private static final char ORDER_OUT = 'o';
    private static final char RAID = 'r';
    private static final char PREPARED = 'p';
    private static final char DONE = 'd';
    private static final char ABORTED = 'a';
    private static final char NONE = '-';

    private final Castle first;
    private final Castle second;
    private final Sight[] sights;
    private final Truce[] truces;
    private final int[] wins;
    private int sightCount;
    private int truceCount;
    private int now;

    public Castlequorum() {
        first = new Castle();
        second = new Castle();
        first.raiseWalls(FIRST_TOWERS, FIRST_GOLD);
        second.raiseWalls(FIRST_TOWERS, FIRST_GOLD);
        sights = new Sight[MOST_SIGHTS];
        for (int sight = 0; sight < MOST_SIGHTS; sight++) {
            sights[sight] = new Sight(first);
        }
        truces = new Truce[MOST_TRUCES];
        for (int truce = 0; truce < MOST_TRUCES; truce++) {
            truces[truce] = new Truce();
        }
        wins = new int[LORDS];
    }

    // Castles and towers

    public int build(int castle, int towers, int gold)
            throws IndexOutOfBoundsException, IllegalArgumentException, UnsupportedOperationException {
        Castle place = castleAt(castle);
        if (towers < 1 || towers > MOST_TOWERS || gold < 0 || gold > MOST_GOLD) {
            throw new IllegalArgumentException("towers are 1 to 7, gold is 0 to 9999");
        }
        if (openTruceAt(castle) >= 0) {
            throw new UnsupportedOperationException("a truce is prepared and not settled there");
        }
        int had = place.row.size;
        place.raiseWalls(towers, gold);
        return had;
    }

    public int wait(int ticks) throws IllegalArgumentException {
        if (ticks < 1 || ticks > LONGEST_WAIT) {
            throw new IllegalArgumentException("ticks are 1 to 100");
        }
        now += ticks;
        return now;
    }

    public boolean fall(int castle, int tower) throws IndexOutOfBoundsException {
        Castle place = castleAt(castle);
        requireTower(place, tower);
        boolean wasUp = place.isUp(tower);
        place.bringDown(tower);
        return wasUp;
    }

    public int burn(int castle, int tower) throws IndexOutOfBoundsException {
        Castle place = castleAt(castle);
        requireTower(place, tower);
        place.bringDown(tower);
        return place.row.dropAllOf(tower);
    }

    public boolean rise(int castle, int tower) throws IndexOutOfBoundsException {
        Castle place = castleAt(castle);
        requireTower(place, tower);
        if (place.isUp(tower)) {
            return false;
        }
        place.bringUp(tower, now + REST_OF_RISEN);
        return true;
    }

    public boolean cut(int castle, int tower, int lord, boolean is) throws IndexOutOfBoundsException {
        Castle place = castleAt(castle);
        requireTower(place, tower);
        requireLord(lord);
        return place.setCut(tower, lord, is);
    }

    // Gates

    public int lease(int lord, int castle, int gate, int ticks)
            throws IndexOutOfBoundsException, IllegalArgumentException, UnsupportedOperationException {
        Castle place = castleAt(castle);
        requireGate(gate);
        requireLord(lord);
        if (ticks < 1 || ticks > LONGEST_LEASE) {
            throw new IllegalArgumentException("ticks are 1 to 20");
        }
        int voters = place.votersFor(lord, gate, now);
        if (!place.isQuorum(voters)) {
            throw new UnsupportedOperationException("those that can vote are no quorum");
        }
        return place.gates[gate].grant(lord, voters, now + ticks);
    }

    public int giveUp(int lord, int castle, int gate)
            throws IndexOutOfBoundsException, UnsupportedOperationException {
        Castle place = castleAt(castle);
        requireGate(gate);
        requireLord(lord);
        if (!place.gates[gate].isOpenFor(lord, now)) {
            throw new UnsupportedOperationException("the gate is not open for this lord");
        }
        return place.gates[gate].endLease(lord, place.towersNear(lord), now);
    }

    public int leaseOf(int lord, int castle, int gate) throws IndexOutOfBoundsException {
        Castle place = castleAt(castle);
        requireGate(gate);
        requireLord(lord);
        return place.gates[gate].leaseTills[lord];
    }

    public int openFor(int castle, int gate) throws IndexOutOfBoundsException, NoSuchElementException {
        Castle place = castleAt(castle);
        requireGate(gate);
        for (int lord = 0; lord < LORDS; lord++) {
            if (place.gates[gate].isOpenFor(lord, now)) {
                return lord;
            }
        }
        throw new NoSuchElementException("the gate is open for nobody");
    }

    public int voteOf(int castle, int tower, int gate) throws IndexOutOfBoundsException, NoSuchElementException {
        return gateWithVote(castle, tower, gate).voteLords[tower];
    }

    public int voteTill(int castle, int tower, int gate) throws IndexOutOfBoundsException, NoSuchElementException {
        return gateWithVote(castle, tower, gate).voteTills[tower];
    }

    public int near(int lord, int castle) throws IndexOutOfBoundsException {
        Castle place = castleAt(castle);
        requireLord(lord);
        return Integer.bitCount(place.towersNear(lord));
    }

    public char tower(int castle, int tower) throws IndexOutOfBoundsException {
        Castle place = castleAt(castle);
        requireTower(place, tower);
        if (!place.isUp(tower)) {
            return 'd';
        }
        return place.isWaiting(tower, now) ? 'w' : 'u';
    }

    // Entries

    public int order(int lord, int castle, int gate, boolean isIn, int amount)
            throws IndexOutOfBoundsException, IllegalArgumentException, UnsupportedOperationException,
            IllegalStateException {
        Castle place = castleAt(castle);
        requireGate(gate);
        requireLord(lord);
        requireAmount(amount);
        if (!place.gates[gate].isOpenFor(lord, now)) {
            throw new UnsupportedOperationException("the gate is not open for this lord");
        }
        Ledger ledger = place.tellLedger();
        int most = isIn ? ledger.purses[lord] : ledger.freeGold();
        if (most < amount) {
            throw new UnsupportedOperationException("there is not as much");
        }
        int towers = place.towersNear(lord);
        if (towers == 0) {
            throw new UnsupportedOperationException("no tower is near");
        }
        requireRoom(place);
        return place.writeEntry(isIn ? ORDER_IN : ORDER_OUT, amount, lord, towers);
    }

    public int spread(int castle) throws IndexOutOfBoundsException {
        return castleAt(castle).spreadEntries();
    }

    public int strike(int castle) throws IndexOutOfBoundsException {
        return castleAt(castle).row.strikeLost();
    }

    public int entries(int castle) throws IndexOutOfBoundsException {
        return castleAt(castle).row.size;
    }

    public int counting(int castle) throws IndexOutOfBoundsException {
        return castleAt(castle).row.countingSize();
    }

    public char entryOf(int castle, int entry) throws IndexOutOfBoundsException {
        return rowWithEntry(castle, entry).letters[entry];
    }

    public int amountOf(int castle, int entry) throws IndexOutOfBoundsException {
        return rowWithEntry(castle, entry).amounts[entry];
    }

    public boolean isCommitted(int castle, int entry) throws IndexOutOfBoundsException {
        return rowWithEntry(castle, entry).committed[entry];
    }

    public boolean has(int castle, int tower, int entry) throws IndexOutOfBoundsException {
        requireTower(castleAt(castle), tower);
        return contains(rowWithEntry(castle, entry).holders[entry], tower);
    }

    public int gold(int castle, boolean isHeld) throws IndexOutOfBoundsException {
        Ledger ledger = castleAt(castle).tellLedger();
        return isHeld ? ledger.heldGold : ledger.allGold;
    }

    public int purse(int lord, int castle) throws IndexOutOfBoundsException {
        Castle place = castleAt(castle);
        requireLord(lord);
        return place.tellLedger().purses[lord];
    }

    // Sights and raids

    public int scout(int lord, int castle)
            throws IndexOutOfBoundsException, UnsupportedOperationException, IllegalStateException {
        Castle place = castleAt(castle);
        requireLord(lord);
        if (!place.isQuorum(place.towersNear(lord))) {
            throw new UnsupportedOperationException("the towers near this lord are no quorum");
        }
        if (sightCount >= MOST_SIGHTS) {
            throw new IllegalStateException("there are 20 sights");
        }
        sights[sightCount].look(place, lord, now);
        return sightCount++;
    }

    public int read(int sight, boolean isCount) throws IndexOutOfBoundsException, UnsupportedOperationException {
        Sight seen = sightAt(sight);
        if (seen.isTooOld(now)) {
            throw new UnsupportedOperationException("the sight is too old");
        }
        return isCount ? seen.countSeen : seen.goldSeen;
    }

    public char raid(int sight, int gate) throws IndexOutOfBoundsException, IllegalStateException {
        Sight seen = sightAt(sight);
        requireGate(gate);
        requireRoom(seen.place);
        char outcome = outcomeOfRaid(seen, gate);
        if (outcome == 'w') {
            seen.place.writeEntry(RAID, seen.goldSeen / 2, seen.lord, seen.place.towersNear(seen.lord));
            wins[seen.lord]++;
        }
        return outcome;
    }

    public int won(int lord) throws IndexOutOfBoundsException {
        requireLord(lord);
        return wins[lord];
    }

    // Truces

    public int truce(int from, int amount)
            throws IndexOutOfBoundsException, IllegalArgumentException, IllegalStateException {
        requireCastle(from);
        requireAmount(amount);
        if (truceCount >= MOST_TRUCES) {
            throw new IllegalStateException("there are 8 truces");
        }
        truces[truceCount].begin(from, amount);
        return truceCount++;
    }

    public int prepare(int truce, int castle, int lord)
            throws IndexOutOfBoundsException, UnsupportedOperationException, IllegalStateException {
        Truce pact = truceAt(truce);
        Castle place = castleAt(castle);
        requireLord(lord);
        if (!canPrepare(pact, castle, lord)) {
            throw new UnsupportedOperationException("it is prepared there, or cannot be");
        }
        requireRoom(place);
        pact.states[castle] = PREPARED;
        return place.writeTruceEntry(PREPARED, pact.amount, pact.from == castle, place.towersNear(lord));
    }

    public int decide(int truce, boolean isDone) throws IndexOutOfBoundsException, UnsupportedOperationException {
        Truce pact = truceAt(truce);
        int prepared = pact.preparedCount();
        if (pact.isDecided() || isDone && prepared < CASTLES) {
            throw new UnsupportedOperationException("it is decided, or to be done and not prepared at both");
        }
        pact.decision = isDone ? DONE : ABORTED;
        return prepared;
    }

    public int settle(int castle)
            throws IndexOutOfBoundsException, UnsupportedOperationException, IllegalStateException {
        Castle place = castleAt(castle);
        int truce = openTruceAt(castle);
        if (truce < 0 || !truces[truce].isDecided()) {
            throw new UnsupportedOperationException("no truce that is decided is prepared there");
        }
        if (!place.isQuorum(place.upTowers) || place.row.isHanging()) {
            throw new UnsupportedOperationException("no quorum of towers is up, or an entry hangs");
        }
        requireRoom(place);
        Truce pact = truces[truce];
        pact.states[castle] = pact.decision;
        place.writeTruceEntry(pact.decision, pact.amount, pact.from == castle, place.upTowers);
        return truce;
    }

    public char truceOf(int truce, int castle) throws IndexOutOfBoundsException {
        Truce pact = truceAt(truce);
        requireCastle(castle);
        return pact.states[castle];
    }

    // Figures

    public int time() {
        return now;
    }

    public long checksum() {
        return second.addTo(first.addTo(7L));
    }

    public float upShare(int castle) throws IndexOutOfBoundsException {
        Castle place = castleAt(castle);
        return (float) Integer.bitCount(place.upTowers) / (float) place.towerCount;
    }

    public double meanEntries(int castle) throws IndexOutOfBoundsException {
        Castle place = castleAt(castle);
        return (double) place.row.heldCount() / (double) place.towerCount;
    }

    public boolean isSound() {
        return first.isSoundAt(now) && second.isSoundAt(now);
    }

    // What the calls share

    private static void requireCastle(int castle) {
        if (castle < 0 || castle >= CASTLES) {
            throw new IndexOutOfBoundsException("there is no such castle");
        }
    }

    private static void requireTower(Castle place, int tower) {
        if (tower < 0 || tower >= place.towerCount) {
            throw new IndexOutOfBoundsException("there is no such tower");
        }
    }

    private static void requireGate(int gate) {
        if (gate < 0 || gate >= GATES) {
            throw new IndexOutOfBoundsException("there is no such gate");
        }
    }

    private static void requireLord(int lord) {
        if (lord < 0 || lord >= LORDS) {
            throw new IndexOutOfBoundsException("there is no such lord");
        }
    }

    private static void requireAmount(int amount) {
        if (amount < 1 || amount > MOST_AMOUNT) {
            throw new IllegalArgumentException("the amount is 1 to 999");
        }
    }

    private static void requireRoom(Castle place) {
        if (place.row.size >= MOST_ENTRIES) {
            throw new IllegalStateException("the castle has 60 entries");
        }
    }

    private Castle castleAt(int castle) {
        requireCastle(castle);
        return castle == 0 ? first : second;
    }

    private Gate gateWithVote(int castle, int tower, int gate) {
        Castle place = castleAt(castle);
        requireTower(place, tower);
        requireGate(gate);
        Gate door = place.gates[gate];
        if (!door.isVoteHeld(tower, now)) {
            throw new NoSuchElementException("no vote holds");
        }
        return door;
    }

    private Row rowWithEntry(int castle, int entry) {
        Row row = castleAt(castle).row;
        if (entry < 0 || entry >= row.size) {
            throw new IndexOutOfBoundsException("there is no such entry");
        }
        return row;
    }

    private Sight sightAt(int sight) {
        if (sight < 0 || sight >= sightCount) {
            throw new IndexOutOfBoundsException("there is no such sight");
        }
        return sights[sight];
    }

    private Truce truceAt(int truce) {
        if (truce < 0 || truce >= truceCount) {
            throw new IndexOutOfBoundsException("there is no such truce");
        }
        return truces[truce];
    }

    /** The truce that is prepared and not settled at a castle, or -1; prepare lets no second one in. */
    private int openTruceAt(int castle) {
        for (int truce = 0; truce < truceCount; truce++) {
            if (truces[truce].states[castle] == PREPARED) {
                return truce;
            }
        }
        return -1;
    }

    private boolean canPrepare(Truce pact, int castle, int lord) {
        Castle place = castleAt(castle);
        if (pact.isDecided() || openTruceAt(castle) >= 0) {
            return false;
        }
        if (!place.isQuorum(place.towersNear(lord)) || place.row.isHanging()) {
            return false;
        }
        return pact.from != castle || place.tellLedger().freeGold() >= pact.amount;
    }

    private char outcomeOfRaid(Sight seen, int gate) {
        Castle place = seen.place;
        if (seen.isTooOld(now)) {
            return 'o';
        }
        if (!place.gates[gate].isOpenFor(seen.lord, now)) {
            return 'g';
        }
        if (!place.isQuorum(place.towersNear(seen.lord))) {
            return 'q';
        }
        if (place.row.countingSize() != seen.countSeen || place.row.isHanging()) {
            return 's';
        }
        return 'w';
    }

    private static boolean contains(int towers, int tower) {
        return (towers & 1 << tower) != 0;
    }

    /** Sets of towers are masks, a bit for each tower. */
    private static final class Castle {
        int towerCount;
        int goldAsBuilt;
        int buildCount;
        int upTowers;
        final int[] waitTills = new int[MOST_TOWERS];
        final int[] cutTowers = new int[LORDS];
        final Gate[] gates = new Gate[GATES];
        final Row row = new Row();
        final Ledger ledger = new Ledger();

        Castle() {
            for (int gate = 0; gate < GATES; gate++) {
                gates[gate] = new Gate();
            }
        }

        void raiseWalls(int towers, int gold) {
            towerCount = towers;
            goldAsBuilt = gold;
            buildCount++;
            upTowers = (1 << towers) - 1;
            for (int tower = 0; tower < MOST_TOWERS; tower++) {
                waitTills[tower] = 0;
            }
            for (int lord = 0; lord < LORDS; lord++) {
                cutTowers[lord] = 0;
            }
            for (int gate = 0; gate < GATES; gate++) {
                gates[gate].clear();
            }
            row.size = 0;
        }

        boolean isQuorum(int towers) {
            return 2 * Integer.bitCount(towers) > towerCount;
        }

        boolean isUp(int tower) {
            return contains(upTowers, tower);
        }

        boolean isWaiting(int tower, int now) {
            return now < waitTills[tower];
        }

        void bringDown(int tower) {
            upTowers &= ~(1 << tower);
            for (int gate = 0; gate < GATES; gate++) {
                gates[gate].voteTills[tower] = 0;
            }
        }

        void bringUp(int tower, int waitTill) {
            upTowers |= 1 << tower;
            waitTills[tower] = waitTill;
        }

        boolean setCut(int tower, int lord, boolean is) {
            boolean was = contains(cutTowers[lord], tower);
            if (was != is) {
                cutTowers[lord] ^= 1 << tower;
            }
            return was;
        }

        int towersNear(int lord) {
            return upTowers & ~cutTowers[lord];
        }

        int votersFor(int lord, int gate, int now) {
            int voters = towersNear(lord);
            for (int tower = 0; tower < towerCount; tower++) {
                if (isWaiting(tower, now) || gates[gate].isVoteOfAnother(tower, lord, now)) {
                    voters &= ~(1 << tower);
                }
            }
            return voters;
        }

        int writeEntry(char letter, int amount, int lord, int towers) {
            int entry = row.append(letter, amount);
            row.lords[entry] = lord;
            spreadEntry(entry, towers);
            return entry;
        }

        int writeTruceEntry(char letter, int amount, boolean isFromHere, int towers) {
            int entry = row.append(letter, amount);
            row.fromHere[entry] = isFromHere;
            spreadEntry(entry, towers);
            return entry;
        }

        int spreadEntries() {
            int got = 0;
            for (int entry = 0; entry < row.size; entry++) {
                if ((row.holders[entry] & upTowers) != 0) {
                    got += spreadEntry(entry, upTowers);
                }
            }
            return got;
        }

        int spreadEntry(int entry, int towers) {
            int got = Integer.bitCount(towers & ~row.holders[entry]);
            row.holders[entry] |= towers;
            if (isQuorum(row.holders[entry])) {
                row.committed[entry] = true;
            }
            return got;
        }

        Ledger tellLedger() {
            ledger.tell(row, goldAsBuilt);
            return ledger;
        }

        long addTo(long sum) {
            tellLedger();
            long added = 31L * sum + ledger.allGold;
            for (int lord = 0; lord < LORDS; lord++) {
                added = 31L * added + ledger.purses[lord];
            }
            return added;
        }

        boolean isSoundAt(int now) {
            for (int gate = 0; gate < GATES; gate++) {
                if (gates[gate].openCount(now) > 1) {
                    return false;
                }
            }
            tellLedger();
            return ledger.isInBounds() && ledger.sum() == goldAsBuilt + row.movedByTruces();
        }
    }

    /** Votes and leases that have ended stay in the arrays: only a tick after now makes them hold. */
    private static final class Gate {
        final int[] voteLords = new int[MOST_TOWERS];
        final int[] voteTills = new int[MOST_TOWERS];
        final int[] leaseTills = new int[LORDS];

        void clear() {
            for (int tower = 0; tower < MOST_TOWERS; tower++) {
                voteTills[tower] = 0;
            }
            for (int lord = 0; lord < LORDS; lord++) {
                leaseTills[lord] = 0;
            }
        }

        boolean isOpenFor(int lord, int now) {
            return now < leaseTills[lord];
        }

        int openCount(int now) {
            int count = 0;
            for (int lord = 0; lord < LORDS; lord++) {
                if (isOpenFor(lord, now)) {
                    count++;
                }
            }
            return count;
        }

        boolean isVoteHeld(int tower, int now) {
            return now < voteTills[tower];
        }

        boolean isVoteOfAnother(int tower, int lord, int now) {
            return isVoteHeld(tower, now) && voteLords[tower] != lord;
        }

        int grant(int lord, int voters, int till) {
            for (int tower = 0; tower < MOST_TOWERS; tower++) {
                if (contains(voters, tower)) {
                    // a vote for another lord holds no more, so its tick is never the later one
                    voteLords[tower] = lord;
                    voteTills[tower] = Math.max(voteTills[tower], till);
                }
            }
            leaseTills[lord] = Math.max(leaseTills[lord], till);
            return leaseTills[lord];
        }

        int endLease(int lord, int towersNear, int now) {
            int ended = 0;
            for (int tower = 0; tower < MOST_TOWERS; tower++) {
                if (contains(towersNear, tower) && isVoteHeld(tower, now) && voteLords[tower] == lord) {
                    voteTills[tower] = 0;
                    ended++;
                }
            }
            leaseTills[lord] = 0;
            return ended;
        }
    }

    private static final class Row {
        int size;
        final char[] letters = new char[MOST_ENTRIES];
        final int[] amounts = new int[MOST_ENTRIES];
        final int[] lords = new int[MOST_ENTRIES];
        final int[] holders = new int[MOST_ENTRIES];
        final boolean[] fromHere = new boolean[MOST_ENTRIES];
        final boolean[] committed = new boolean[MOST_ENTRIES];

        /** Needs a row that is not full. Its lord, or fromHere, is left to the caller: no kind of entry reads both. */
        int append(char letter, int amount) {
            int entry = size++;
            letters[entry] = letter;
            amounts[entry] = amount;
            holders[entry] = 0;
            committed[entry] = false;
            return entry;
        }

        int countingSize() {
            int count = 0;
            while (count < size && (committed[count] || letters[count] == NONE)) {
                count++;
            }
            return count;
        }

        boolean isHanging() {
            return countingSize() < size;
        }

        int strikeLost() {
            int struck = 0;
            // counted before the first is struck: what hangs then is struck, even if it would count now
            for (int entry = countingSize(); entry < size; entry++) {
                if (holders[entry] == 0 && letters[entry] != NONE) {
                    letters[entry] = NONE;
                    struck++;
                }
            }
            return struck;
        }

        int dropAllOf(int tower) {
            int dropped = 0;
            for (int entry = 0; entry < size; entry++) {
                if (contains(holders[entry], tower)) {
                    holders[entry] &= ~(1 << tower);
                    dropped++;
                }
            }
            return dropped;
        }

        int heldCount() {
            int held = 0;
            for (int entry = 0; entry < size; entry++) {
                held += Integer.bitCount(holders[entry]);
            }
            return held;
        }

        int movedByTruces() {
            int moved = 0;
            int count = countingSize();
            for (int entry = 0; entry < count; entry++) {
                if (letters[entry] == DONE) {
                    moved += fromHere[entry] ? -amounts[entry] : amounts[entry];
                }
            }
            return moved;
        }
    }

    /** Told anew from the entries at each question, so that nothing else has to keep it right. */
    private static final class Ledger {
        int allGold;
        int heldGold;
        final int[] purses = new int[LORDS];

        void tell(Row row, int goldAsBuilt) {
            allGold = goldAsBuilt;
            heldGold = 0;
            for (int lord = 0; lord < LORDS; lord++) {
                purses[lord] = 0;
            }
            int count = row.countingSize();
            for (int entry = 0; entry < count; entry++) {
                char letter = row.letters[entry];
                if (letter == ORDER_IN || letter == ORDER_OUT || letter == RAID) {
                    tellOrder(letter, row.amounts[entry], row.lords[entry]);
                } else {
                    tellTruce(letter, row.amounts[entry], row.fromHere[entry]);
                }
            }
        }

        void tellOrder(char letter, int amount, int lord) {
            if (letter == ORDER_IN) {
                if (purses[lord] >= amount) {
                    purses[lord] -= amount;
                    allGold += amount;
                }
            } else if (freeGold() >= amount) {
                allGold -= amount;
                purses[lord] += amount;
            }
        }

        void tellTruce(char letter, int amount, boolean isFromHere) {
            if (letter == DONE) {
                allGold += isFromHere ? -amount : amount;
            }
            if (isFromHere && letter == PREPARED) {
                heldGold += amount;
            } else if (isFromHere && (letter == DONE || letter == ABORTED)) {
                heldGold -= amount;
            }
        }

        int freeGold() {
            return allGold - heldGold;
        }

        int sum() {
            int sum = allGold;
            for (int lord = 0; lord < LORDS; lord++) {
                sum += purses[lord];
            }
            return sum;
        }

        boolean isInBounds() {
            for (int lord = 0; lord < LORDS; lord++) {
                if (purses[lord] < 0) {
                    return false;
                }
            }
            return heldGold >= 0 && allGold >= heldGold;
        }
    }

    private static final class Sight {
        Castle place;
        int lord;
        int tick;
        int buildSeen;
        int countSeen;
        int goldSeen;

        /** Of some castle, so that place is never null; what has not looked yet has no number to be asked by. */
        Sight(Castle castle) {
            place = castle;
        }

        void look(Castle castle, int ofLord, int now) {
            place = castle;
            lord = ofLord;
            tick = now;
            buildSeen = castle.buildCount;
            countSeen = castle.row.countingSize();
            goldSeen = castle.tellLedger().freeGold();
        }

        boolean isTooOld(int now) {
            return now >= tick + SIGHT_LASTS || place.buildCount != buildSeen;
        }
    }

    private static final class Truce {
        int from;
        int amount;
        char decision;
        final char[] states = new char[CASTLES];

        void begin(int fromCastle, int movedAmount) {
            from = fromCastle;
            amount = movedAmount;
            decision = NONE;
            for (int castle = 0; castle < CASTLES; castle++) {
                states[castle] = NONE;
            }
        }

        boolean isDecided() {
            return decision != NONE;
        }

        int preparedCount() {
            int prepared = 0;
            for (int castle = 0; castle < CASTLES; castle++) {
                if (states[castle] == PREPARED) {
                    prepared++;
                }
            }
            return prepared;
        }
    }
}
