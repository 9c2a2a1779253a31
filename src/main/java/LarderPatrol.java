import java.util.NoSuchElementException;

/** A larder whose cheese is eaten by mice and guarded by a cat on patrol. */
public final class LarderPatrol {
    private static final int MOST_SHELVES = 12;
    private static final int MOST_PASSAGES = 20;
    private static final int MOST_GRAMS = 99;
    private static final int MOST_STOPS = 10;
    private static final int MOST_MICE = 8;
    private static final int MOST_RATE = 16;
    private static final int MOST_MINUTES = 60;
    private static final int MOST_CHANGES = 8;
    private static final int FATAL_HUNGER = 3;
    private static final int FIRST_RATE = 4;
    private static final int SEEDS = 1024;
    private static final int SEEDS_PER_SHELF = 16;
    private static final int TEXT_ROOM = 60;
    // The longest line is that of a shelf with 8 mice and 11 neighbours: 38 characters.
    private static final int LINE_ROOM = 64;
    private static final int COMMAND_FAILED = 6;
    // Far above every distance, and small enough for a sum of two.
    private static final int FAR = 1000;
    private static final int NONE = -1;

    private final Larder larder = new Larder();
    private final Larder trial = new Larder();
    private final Larder snapshot = new Larder();
    private boolean hasSnapshot;
    private final History history = new History();
    private final DistanceTable table = new DistanceTable();
    private final Script script = new Script();
    private final Line line = new Line();
    private int keptFault = NONE;
    private int latestDenial = NONE;
    private int latestDetail;
    private int latestCause = NONE;

    public LarderPatrol() {
    }

    // ---- shelves

    public int addShelf(int cheese) throws IllegalArgumentException, UnsupportedOperationException {
        return change(Verb.SHELF, cheese, 0);
    }

    public int link(int first, int second) throws IndexOutOfBoundsException, UnsupportedOperationException {
        return change(Verb.LINK, first, second);
    }

    public int unlink(int first, int second) throws IndexOutOfBoundsException, UnsupportedOperationException {
        return change(Verb.CUT, first, second);
    }

    public int setBlind(int shelf, boolean isBlind) throws IndexOutOfBoundsException, UnsupportedOperationException {
        return change(isBlind ? Verb.HIDE : Verb.SHOW, shelf, 0);
    }

    public int fill(int shelf, int grams)
            throws IndexOutOfBoundsException, IllegalArgumentException, UnsupportedOperationException {
        return change(Verb.FILL, shelf, grams);
    }

    public int shelfCount() {
        return larder.shelves.count;
    }

    public int passageCount() {
        return larder.shelves.passages;
    }

    public int cheese(int shelf) throws IndexOutOfBoundsException {
        requireShelf(shelf);
        return at(larder.shelves.grams, shelf);
    }

    public boolean isBlind(int shelf) throws IndexOutOfBoundsException {
        requireShelf(shelf);
        return holds(larder.shelves.blind, shelf);
    }

    public int neighbourCount(int shelf) throws IndexOutOfBoundsException {
        requireShelf(shelf);
        return Integer.bitCount(at(larder.shelves.neighbours, shelf));
    }

    public int distance(int first, int second) throws IndexOutOfBoundsException, NoSuchElementException {
        requireShelf(first);
        requireShelf(second);
        int steps = larder.shelves.stepsBetween(first, second);
        if (steps == NONE) {
            throw new NoSuchElementException("no way leads from one shelf to the other");
        }
        return steps;
    }

    public int distanceByTable(int first, int second) throws IndexOutOfBoundsException, NoSuchElementException {
        requireShelf(first);
        requireShelf(second);
        int steps = table.stepsBetween(larder.shelves, first, second);
        if (steps >= FAR) {
            throw new NoSuchElementException("no way leads from one shelf to the other");
        }
        return steps;
    }

    public int groupCount() {
        return larder.shelves.countGroups();
    }

    public int shelfByCheese(int rank) throws NoSuchElementException {
        int shelf = larder.shelves.shelfAtRank(rank);
        if (shelf == NONE) {
            throw new NoSuchElementException("there is no such rank");
        }
        return shelf;
    }

    // ---- the patrol

    public int addStop(int shelf) throws IndexOutOfBoundsException, UnsupportedOperationException {
        return change(Verb.STOP, shelf, 0);
    }

    public int removeStop(int stop) throws IndexOutOfBoundsException {
        return change(Verb.DROP, stop, 0);
    }

    public int stopCount() {
        return larder.patrol.count;
    }

    public int shelfOfStop(int stop) throws IndexOutOfBoundsException {
        if (!larder.patrol.hasStop(stop)) {
            throw new IndexOutOfBoundsException("there is no such stop");
        }
        return at(larder.patrol.stops, stop);
    }

    public int catShelf() throws NoSuchElementException {
        requireAnyShelf();
        return larder.patrol.cat;
    }

    public int goal() throws NoSuchElementException {
        if (larder.patrol.count == 0) {
            throw new NoSuchElementException("there are no stops");
        }
        return larder.patrol.goalStop;
    }

    public int nextShelf() throws NoSuchElementException {
        requireAnyShelf();
        return larder.shelfAfterWalk();
    }

    public int lapLength() throws NoSuchElementException {
        int length = larder.countLapSteps();
        if (length == NONE) {
            throw new NoSuchElementException("no way leads from a stop to the next one");
        }
        return length;
    }

    // ---- mice, minutes

    public int pass(int minutes) throws IllegalArgumentException {
        return change(Verb.WAIT, minutes, 0);
    }

    public int predictCaught(int minutes) throws IllegalArgumentException {
        if (minutes < 0 || minutes > MOST_MINUTES) {
            throw new IllegalArgumentException("the number of minutes is out of range");
        }
        trial.copyFrom(larder);
        return trial.letPass(minutes);
    }

    public int setRate(int rate) throws IllegalArgumentException {
        return change(Verb.RATE, rate, 0);
    }

    public int setSeed(int seed) throws IllegalArgumentException {
        return change(Verb.SEED, seed, 0);
    }

    public int seed() {
        return larder.seed;
    }

    public int minute() {
        return larder.minute;
    }

    public int mouseCount() {
        return larder.mice.count;
    }

    public int mouseShelf(int mouse) throws IndexOutOfBoundsException {
        requireMouse(mouse);
        return at(larder.mice.shelves, mouse);
    }

    public int mouseEaten(int mouse) throws IndexOutOfBoundsException {
        requireMouse(mouse);
        return at(larder.mice.eaten, mouse);
    }

    public int mouseHunger(int mouse) throws IndexOutOfBoundsException {
        requireMouse(mouse);
        return at(larder.mice.hunger, mouse);
    }

    public int miceOn(int shelf) throws IndexOutOfBoundsException {
        requireShelf(shelf);
        return larder.mice.countOn(shelf);
    }

    // ---- accounts

    public int totalCheese() {
        return larder.shelves.sumOfGrams();
    }

    public int totalCheeseByAccounts() {
        return larder.stored - larder.eaten;
    }

    public int eaten() {
        return larder.eaten;
    }

    public int caught() {
        return larder.caught;
    }

    public int gone() {
        return larder.gone;
    }

    public int rinds() {
        return larder.rinds;
    }

    public double meanCheese() throws ArithmeticException {
        if (larder.shelves.count == 0) {
            throw new ArithmeticException("there are no shelves");
        }
        return (double) larder.shelves.sumOfGrams() / (double) larder.shelves.count;
    }

    public float caughtShare() throws ArithmeticException {
        int ended = larder.caught + larder.gone;
        if (ended == 0) {
            throw new ArithmeticException("no mouse was caught or has left");
        }
        return (float) larder.caught / (float) ended;
    }

    // ---- texts and output lines

    public int feed(char character) throws IllegalStateException {
        if (script.length >= TEXT_ROOM) {
            throw new IllegalStateException("the text buffer is full");
        }
        script.append(character);
        return script.length;
    }

    public int execute() throws IllegalArgumentException, UnsupportedOperationException {
        int fault = script.findFault();
        if (fault != NONE) {
            script.clear();
            keptFault = fault;
            throw new IllegalArgumentException("the text does not match the grammar");
        }
        boolean done = tryCommands();
        script.clear();
        if (!done) {
            throw new UnsupportedOperationException("a command of the text failed");
        }
        history.push(larder);
        larder.copyFrom(trial);
        return script.commands;
    }

    public int faultPosition() throws NoSuchElementException {
        if (keptFault == NONE) {
            throw new NoSuchElementException("no fault position was kept yet");
        }
        return keptFault;
    }

    public int writeShelf(int shelf) throws IndexOutOfBoundsException {
        requireShelf(shelf);
        line.showShelf(larder, shelf);
        return line.length;
    }

    public int writePatrol() {
        line.showStops(larder.patrol);
        return line.length;
    }

    public char lineCharacter(int index) throws IndexOutOfBoundsException {
        if (!isWithin(index, line.length) || !isWithin(index, LINE_ROOM)) {
            throw new IndexOutOfBoundsException("there is no such index");
        }
        return line.signs[index];
    }

    // ---- the latest denial

    public int denial() throws NoSuchElementException {
        requireDenial();
        return latestDenial;
    }

    public int denialDetail() throws NoSuchElementException {
        requireDenial();
        return latestDetail;
    }

    public int denialCause() throws NoSuchElementException {
        if (latestCause == NONE) {
            throw new NoSuchElementException("there is no denial with a cause");
        }
        return latestCause;
    }

    // ---- undo and snapshots

    public int undo() throws IllegalStateException {
        if (history.count == 0) {
            throw new IllegalStateException("there is no change to undo");
        }
        history.pop(larder);
        return history.count;
    }

    public int undoCount() {
        return history.count;
    }

    public int saveSnapshot() {
        snapshot.copyFrom(larder);
        hasSnapshot = true;
        return larder.shelves.count;
    }

    public int restoreSnapshot() throws IllegalStateException {
        if (!hasSnapshot) {
            throw new IllegalStateException("there is no snapshot");
        }
        larder.copyFrom(snapshot);
        history.clear();
        return larder.shelves.count;
    }

    // ---- helpers

    private int change(Verb verb, int first, int second) {
        Refusal refusal = larder.refusalOf(verb, first, second);
        if (refusal == Refusal.NO_SUCH_INDEX) {
            throw new IndexOutOfBoundsException("there is no such shelf or stop");
        }
        if (refusal == Refusal.OUT_OF_RANGE) {
            throw new IllegalArgumentException("a value is out of range");
        }
        if (refusal != Refusal.NOTHING) {
            keepDenial(refusal.number, larder.detailOf(refusal, verb, first), NONE);
            throw new UnsupportedOperationException("denied");
        }
        history.push(larder);
        return larder.carryOut(verb, first, second);
    }

    // The commands go to the trial larder alone, so that a failed text leaves no trace.
    private boolean tryCommands() {
        trial.copyFrom(larder);
        script.rewind();
        for (int index = 0; index < script.commands; index++) {
            script.readCommand();
            Refusal refusal = trial.refusalOf(script.verb, script.first, script.second);
            if (refusal != Refusal.NOTHING) {
                keepDenial(COMMAND_FAILED, index, refusal.number);
                return false;
            }
            trial.carryOut(script.verb, script.first, script.second);
        }
        return true;
    }

    private void keepDenial(int number, int detail, int cause) {
        latestDenial = number;
        latestDetail = detail;
        latestCause = cause;
    }

    private void requireShelf(int shelf) {
        if (!larder.shelves.has(shelf)) {
            throw new IndexOutOfBoundsException("there is no such shelf");
        }
    }

    private void requireAnyShelf() {
        if (larder.shelves.count == 0) {
            throw new NoSuchElementException("there are no shelves");
        }
    }

    private void requireMouse(int mouse) {
        if (!isWithin(mouse, larder.mice.count)) {
            throw new IndexOutOfBoundsException("there is no such mouse");
        }
    }

    private void requireDenial() {
        if (latestDenial == NONE) {
            throw new NoSuchElementException("nothing was denied yet");
        }
    }

    private static boolean isWithin(int index, int length) {
        return index >= 0 && index < length;
    }

    private static int at(int[] row, int index) {
        return index >= 0 && index < row.length ? row[index] : 0;
    }

    private static void put(int[] row, int index, int value) {
        if (index >= 0 && index < row.length) {
            row[index] = value;
        }
    }

    private static void copyRow(int[] from, int[] to) {
        System.arraycopy(from, 0, to, 0, Math.min(from.length, to.length));
    }

    // Sets of shelves are kept as bits, so that copies and searches need no further rows.
    private static boolean holds(int set, int shelf) {
        return (set >> shelf & 1) == 1;
    }

    private static int bit(int shelf) {
        return 1 << shelf;
    }

    /** What a change asks for; in a pattern N stands for 1 or 2 digits, L for 1 to 4, D for 1. */
    private enum Verb {
        SHELF("shelf N", MOST_SHELVES),
        LINK("link N-N", MOST_PASSAGES),
        CUT("cut N-N", 0),
        HIDE("hide N", 0),
        SHOW("show N", 0),
        FILL("fill N N", MOST_GRAMS),
        STOP("stop N", MOST_STOPS),
        DROP("drop D", 0),
        RATE("rate N", 0),
        SEED("seed L", 0),
        WAIT("wait N", 0);

        private final String pattern;
        private final int limit;

        Verb(String pattern, int limit) {
            this.pattern = pattern;
            this.limit = limit;
        }
    }

    /** Why a change is refused, with the number that it has as the cause of a failed command. */
    private enum Refusal {
        NOTHING(0),
        LIMIT(1),
        SAME_SHELF(2),
        CONNECTED(3),
        NOT_CONNECTED(4),
        PRESENT_VALUE(5),
        NO_SUCH_INDEX(7),
        OUT_OF_RANGE(7);

        private final int number;

        Refusal(int number) {
            this.number = number;
        }
    }

    /** Everything that changes can change. */
    private static final class Larder {
        private final Shelves shelves = new Shelves();
        private final Patrol patrol = new Patrol();
        private final Mice mice = new Mice();
        private int rate = FIRST_RATE;
        private int seed;
        private int minute;
        private int stored;
        private int eaten;
        private int caught;
        private int gone;
        private int rinds;

        private void copyFrom(Larder other) {
            shelves.copyFrom(other.shelves);
            patrol.copyFrom(other.patrol);
            mice.copyFrom(other.mice);
            rate = other.rate;
            seed = other.seed;
            minute = other.minute;
            stored = other.stored;
            eaten = other.eaten;
            caught = other.caught;
            gone = other.gone;
            rinds = other.rinds;
        }

        private Refusal refusalOf(Verb verb, int first, int second) {
            switch (verb) {
                case SHELF:
                    return refusalOfShelf(first);
                case LINK:
                    return refusalOfLink(first, second);
                case CUT:
                    return refusalOfCut(first, second);
                case HIDE:
                    return refusalOfBlindness(first, true);
                case SHOW:
                    return refusalOfBlindness(first, false);
                case FILL:
                    return refusalOfFill(first, second);
                case STOP:
                    return refusalOfStop(first);
                case DROP:
                    return patrol.hasStop(first) ? Refusal.NOTHING : Refusal.NO_SUCH_INDEX;
                case RATE:
                    return refusalOfRange(first, 0, MOST_RATE);
                case SEED:
                    return refusalOfRange(first, 0, SEEDS - 1);
                default:
                    return refusalOfRange(first, 1, MOST_MINUTES);
            }
        }

        private Refusal refusalOfRange(int value, int least, int most) {
            return value < least || value > most ? Refusal.OUT_OF_RANGE : Refusal.NOTHING;
        }

        private Refusal refusalOfShelf(int grams) {
            if (grams < 0 || grams > MOST_GRAMS) {
                return Refusal.OUT_OF_RANGE;
            }
            return shelves.count >= MOST_SHELVES ? Refusal.LIMIT : Refusal.NOTHING;
        }

        private Refusal refusalOfLink(int first, int second) {
            if (!shelves.has(first) || !shelves.has(second)) {
                return Refusal.NO_SUCH_INDEX;
            }
            if (first == second) {
                return Refusal.SAME_SHELF;
            }
            if (shelves.areConnected(first, second)) {
                return Refusal.CONNECTED;
            }
            return shelves.passages >= MOST_PASSAGES ? Refusal.LIMIT : Refusal.NOTHING;
        }

        private Refusal refusalOfCut(int first, int second) {
            if (!shelves.has(first) || !shelves.has(second)) {
                return Refusal.NO_SUCH_INDEX;
            }
            return shelves.areConnected(first, second) ? Refusal.NOTHING : Refusal.NOT_CONNECTED;
        }

        private Refusal refusalOfBlindness(int shelf, boolean wanted) {
            if (!shelves.has(shelf)) {
                return Refusal.NO_SUCH_INDEX;
            }
            return holds(shelves.blind, shelf) == wanted ? Refusal.PRESENT_VALUE : Refusal.NOTHING;
        }

        private Refusal refusalOfFill(int shelf, int grams) {
            if (!shelves.has(shelf)) {
                return Refusal.NO_SUCH_INDEX;
            }
            if (grams < 1 || grams > MOST_GRAMS) {
                return Refusal.OUT_OF_RANGE;
            }
            return at(shelves.grams, shelf) + grams > MOST_GRAMS ? Refusal.LIMIT : Refusal.NOTHING;
        }

        private Refusal refusalOfStop(int shelf) {
            if (!shelves.has(shelf)) {
                return Refusal.NO_SUCH_INDEX;
            }
            return patrol.count >= MOST_STOPS ? Refusal.LIMIT : Refusal.NOTHING;
        }

        private int detailOf(Refusal refusal, Verb verb, int first) {
            switch (refusal) {
                case LIMIT:
                    return verb.limit;
                case SAME_SHELF:
                    return first;
                case PRESENT_VALUE:
                    return verb == Verb.HIDE ? 1 : 0;
                default:
                    return shelves.passages;
            }
        }

        // Only for what refusalOf answers with NOTHING: the limits are not looked at again here.
        private int carryOut(Verb verb, int first, int second) {
            switch (verb) {
                case SHELF:
                    stored += first;
                    return shelves.add(first);
                case LINK:
                    return shelves.connect(first, second);
                case CUT:
                    return shelves.disconnect(first, second);
                case HIDE:
                    return shelves.replaceBlind(shelves.blind | bit(first));
                case SHOW:
                    return shelves.replaceBlind(shelves.blind & ~bit(first));
                case FILL:
                    stored += second;
                    return shelves.addGrams(first, second);
                case STOP:
                    return patrol.append(first);
                case DROP:
                    return patrol.remove(first);
                case RATE:
                    return replaceRate(first);
                case SEED:
                    return replaceSeed(first);
                default:
                    return letPass(first);
            }
        }

        private int replaceRate(int value) {
            int before = rate;
            rate = value;
            return before;
        }

        private int replaceSeed(int value) {
            int before = seed;
            seed = value;
            return before;
        }

        private int letPass(int minutes) {
            int before = caught;
            for (int passed = 0; passed < minutes; passed++) {
                patrol.cat = shelfAfterWalk();
                patrol.leaveReachedGoal();
                catchMice();
                visitMice();
                drawMouse();
                minute++;
            }
            return caught - before;
        }

        private int shelfAfterWalk() {
            if (patrol.count == 0) {
                return patrol.cat;
            }
            return shelves.shelfTowards(patrol.cat, patrol.shelfOfGoal());
        }

        private void catchMice() {
            if (holds(shelves.blind, patrol.cat)) {
                return;
            }
            int kept = 0;
            for (int mouse = 0; mouse < mice.count; mouse++) {
                if (at(mice.shelves, mouse) == patrol.cat) {
                    caught++;
                    rinds += at(mice.eaten, mouse);
                } else {
                    mice.renumber(mouse, kept);
                    kept++;
                }
            }
            mice.count = kept;
        }

        private void visitMice() {
            int kept = 0;
            for (int mouse = 0; mouse < mice.count; mouse++) {
                if (staysAfterVisit(mouse)) {
                    mice.renumber(mouse, kept);
                    kept++;
                } else {
                    gone++;
                }
            }
            mice.count = kept;
        }

        private boolean staysAfterVisit(int mouse) {
            int shelf = at(mice.shelves, mouse);
            if (at(shelves.grams, shelf) > 0) {
                shelves.addGrams(shelf, -1);
                mice.eat(mouse);
                eaten++;
                return true;
            }
            int hunger = at(mice.hunger, mouse) + 1;
            if (hunger >= FATAL_HUNGER) {
                return false;
            }
            put(mice.hunger, mouse, hunger);
            put(mice.shelves, mouse, shelves.richestNeighbour(shelf));
            return true;
        }

        private void drawMouse() {
            seed = (seed * 109 + 89) % SEEDS;
            if (seed % MOST_RATE < rate && shelves.count > 0 && mice.count < MOST_MICE) {
                mice.appear(seed / SEEDS_PER_SHELF % shelves.count);
            }
        }

        private int countLapSteps() {
            int sum = 0;
            for (int stop = 0; stop < patrol.count; stop++) {
                int shelf = at(patrol.stops, stop);
                int next = at(patrol.stops, patrol.stopAfter(stop));
                int steps = shelves.stepsBetween(shelf, next);
                if (steps == NONE) {
                    return NONE;
                }
                sum += steps;
            }
            return sum;
        }
    }

    private static final class Shelves {
        private final int[] grams = new int[MOST_SHELVES];
        private final int[] neighbours = new int[MOST_SHELVES];
        private int blind;
        private int count;
        private int passages;

        private void copyFrom(Shelves other) {
            copyRow(other.grams, grams);
            copyRow(other.neighbours, neighbours);
            blind = other.blind;
            count = other.count;
            passages = other.passages;
        }

        private boolean has(int shelf) {
            return isWithin(shelf, count);
        }

        private int add(int cheese) {
            put(grams, count, cheese);
            count++;
            return count - 1;
        }

        private int addGrams(int shelf, int more) {
            put(grams, shelf, at(grams, shelf) + more);
            return at(grams, shelf);
        }

        private int replaceBlind(int set) {
            blind = set;
            return Integer.bitCount(blind);
        }

        private boolean areConnected(int first, int second) {
            return holds(at(neighbours, first), second);
        }

        private int connect(int first, int second) {
            put(neighbours, first, at(neighbours, first) | bit(second));
            put(neighbours, second, at(neighbours, second) | bit(first));
            passages++;
            return passages;
        }

        private int disconnect(int first, int second) {
            put(neighbours, first, at(neighbours, first) & ~bit(second));
            put(neighbours, second, at(neighbours, second) & ~bit(first));
            passages--;
            return passages;
        }

        private int neighboursOfAll(int set) {
            int all = 0;
            for (int shelf = 0; shelf < neighbours.length; shelf++) {
                if (holds(set, shelf)) {
                    all |= neighbours[shelf];
                }
            }
            return all;
        }

        private int stepsBetween(int first, int second) {
            int layer = bit(first);
            int reached = layer;
            for (int steps = 0; steps < MOST_SHELVES; steps++) {
                if (holds(layer, second)) {
                    return steps;
                }
                layer = neighboursOfAll(layer) & ~reached;
                reached |= layer;
            }
            return NONE;
        }

        // Searches from the target, so that the first layer with neighbours holds the nearest.
        private int shelfTowards(int shelf, int target) {
            if (shelf == target) {
                return shelf;
            }
            int own = at(neighbours, shelf);
            int layer = bit(target);
            int reached = layer;
            for (int steps = 0; steps < MOST_SHELVES; steps++) {
                if ((layer & own) != 0) {
                    return smallestIn(layer & own, shelf);
                }
                layer = neighboursOfAll(layer) & ~reached;
                reached |= layer;
            }
            return shelf;
        }

        private int smallestIn(int set, int otherwise) {
            for (int shelf = 0; shelf < MOST_SHELVES; shelf++) {
                if (holds(set, shelf)) {
                    return shelf;
                }
            }
            return otherwise;
        }

        private int richestNeighbour(int shelf) {
            int own = at(neighbours, shelf);
            int richest = shelf;
            int most = NONE;
            for (int other = 0; other < grams.length; other++) {
                if (holds(own, other) && grams[other] > most) {
                    richest = other;
                    most = grams[other];
                }
            }
            return richest;
        }

        private int countGroups() {
            int groups = 0;
            int reached = 0;
            for (int shelf = 0; shelf < count; shelf++) {
                if (!holds(reached, shelf)) {
                    groups++;
                    reached |= groupOf(shelf);
                }
            }
            return groups;
        }

        private int groupOf(int shelf) {
            int group = bit(shelf);
            for (int steps = 0; steps < MOST_SHELVES; steps++) {
                group |= neighboursOfAll(group);
            }
            return group;
        }

        private int shelfAtRank(int rank) {
            for (int shelf = 0; shelf < count; shelf++) {
                if (rankOf(shelf) == rank) {
                    return shelf;
                }
            }
            return NONE;
        }

        private int rankOf(int shelf) {
            int own = at(grams, shelf);
            int rank = 0;
            for (int other = 0; other < count; other++) {
                int others = at(grams, other);
                if (others > own || others == own && other < shelf) {
                    rank++;
                }
            }
            return rank;
        }

        private int sumOfGrams() {
            int sum = 0;
            for (int shelf = 0; shelf < count; shelf++) {
                sum += at(grams, shelf);
            }
            return sum;
        }
    }

    /** A second way to the distances, which shares nothing with the search. */
    private static final class DistanceTable {
        private final int[] steps = new int[MOST_SHELVES * MOST_SHELVES];

        private int stepsBetween(Shelves shelves, int first, int second) {
            start(shelves);
            for (int via = 0; via < shelves.count; via++) {
                improve(shelves.count, via);
            }
            return at(steps, place(first, second));
        }

        private int place(int from, int to) {
            return from * MOST_SHELVES + to;
        }

        private void start(Shelves shelves) {
            for (int from = 0; from < shelves.count; from++) {
                for (int to = 0; to < shelves.count; to++) {
                    int direct = shelves.areConnected(from, to) ? 1 : FAR;
                    put(steps, place(from, to), from == to ? 0 : direct);
                }
            }
        }

        private void improve(int count, int via) {
            for (int from = 0; from < count; from++) {
                for (int to = 0; to < count; to++) {
                    int round = at(steps, place(from, via)) + at(steps, place(via, to));
                    int known = at(steps, place(from, to));
                    put(steps, place(from, to), Math.min(known, round));
                }
            }
        }
    }

    private static final class Patrol {
        private final int[] stops = new int[MOST_STOPS];
        private int count;
        private int cat;
        private int goalStop;

        private void copyFrom(Patrol other) {
            copyRow(other.stops, stops);
            count = other.count;
            cat = other.cat;
            goalStop = other.goalStop;
        }

        private boolean hasStop(int stop) {
            return isWithin(stop, count);
        }

        private int append(int shelf) {
            put(stops, count, shelf);
            count++;
            return count;
        }

        private int remove(int stop) {
            int shelf = at(stops, stop);
            count--;
            for (int place = stop; place < count; place++) {
                put(stops, place, at(stops, place + 1));
            }
            if (stop < goalStop) {
                goalStop--;
            } else if (goalStop >= count) {
                goalStop = 0;
            }
            return shelf;
        }

        private int shelfOfGoal() {
            return at(stops, goalStop);
        }

        private int stopAfter(int stop) {
            return stop + 1 < count ? stop + 1 : 0;
        }

        private void leaveReachedGoal() {
            if (count > 0 && cat == shelfOfGoal()) {
                goalStop = stopAfter(goalStop);
            }
        }
    }

    private static final class Mice {
        private final int[] shelves = new int[MOST_MICE];
        private final int[] eaten = new int[MOST_MICE];
        private final int[] hunger = new int[MOST_MICE];
        private int count;

        private void copyFrom(Mice other) {
            copyRow(other.shelves, shelves);
            copyRow(other.eaten, eaten);
            copyRow(other.hunger, hunger);
            count = other.count;
        }

        private void appear(int shelf) {
            put(shelves, count, shelf);
            put(eaten, count, 0);
            put(hunger, count, 0);
            count++;
        }

        private void eat(int mouse) {
            put(eaten, mouse, at(eaten, mouse) + 1);
            put(hunger, mouse, 0);
        }

        private void renumber(int mouse, int number) {
            put(shelves, number, at(shelves, mouse));
            put(eaten, number, at(eaten, mouse));
            put(hunger, number, at(hunger, mouse));
        }

        private int countOn(int shelf) {
            int sum = 0;
            for (int mouse = 0; mouse < count; mouse++) {
                if (at(shelves, mouse) == shelf) {
                    sum++;
                }
            }
            return sum;
        }
    }

    /** The larder as it was before each of the latest changes; the oldest gives way. */
    private static final class History {
        private final Larder[] earlier = new Larder[MOST_CHANGES];
        private int oldest;
        private int count;

        private History() {
            for (int place = 0; place < earlier.length; place++) {
                earlier[place] = new Larder();
            }
        }

        private void push(Larder present) {
            Larder room = earlierAt(count);
            if (room != null) {
                room.copyFrom(present);
            }
            if (count < MOST_CHANGES) {
                count++;
            } else {
                oldest = (oldest + 1) % MOST_CHANGES;
            }
        }

        private void pop(Larder present) {
            count--;
            Larder room = earlierAt(count);
            if (room != null) {
                present.copyFrom(room);
            }
        }

        private Larder earlierAt(int age) {
            int place = (oldest + age) % MOST_CHANGES;
            return place >= 0 && place < earlier.length ? earlier[place] : null;
        }

        private void clear() {
            oldest = 0;
            count = 0;
        }
    }

    /** The text buffer, and the reader of its commands. */
    private static final class Script {
        private static final Verb[] VERBS = Verb.values();

        private final char[] text = new char[TEXT_ROOM];
        private int length;
        private int position;
        private int commands;
        private Verb verb = Verb.SHELF;
        private int first;
        private int second;

        private void append(char sign) {
            if (length >= 0 && length < text.length) {
                text[length] = sign;
                length++;
            }
        }

        private void clear() {
            length = 0;
        }

        private void rewind() {
            position = 0;
        }

        // Counts the commands on its way; they can be read again after rewind.
        private int findFault() {
            position = 0;
            commands = 0;
            for (int read = 0; read < TEXT_ROOM; read++) {
                if (!readPatterns()) {
                    return position;
                }
                commands++;
                if (position >= length) {
                    return NONE;
                }
                if (!readSign(';')) {
                    return position;
                }
            }
            return position;
        }

        private void readCommand() {
            readPatterns();
            readSign(';');
        }

        // Without a match the position is the farthest at which some command could still go on.
        private boolean readPatterns() {
            int start = position;
            int farthest = start;
            for (int index = 0; index < VERBS.length; index++) {
                position = start;
                if (readPattern(VERBS[index].pattern)) {
                    verb = VERBS[index];
                    return true;
                }
                farthest = Math.max(farthest, position);
            }
            position = farthest;
            return false;
        }

        private boolean readPattern(String pattern) {
            first = NONE;
            second = NONE;
            for (int index = 0; index < pattern.length(); index++) {
                char sign = pattern.charAt(index);
                int digits = mostDigits(sign);
                boolean fits = digits == 0 ? readSign(sign) : readNumber(digits);
                if (!fits) {
                    return false;
                }
            }
            return true;
        }

        private int mostDigits(char sign) {
            if (sign == 'D') {
                return 1;
            }
            if (sign == 'N') {
                return 2;
            }
            return sign == 'L' ? 4 : 0;
        }

        private boolean readSign(char sign) {
            if (presentSign() != sign) {
                return false;
            }
            position++;
            return true;
        }

        private boolean readNumber(int most) {
            int value = 0;
            int read = 0;
            while (read < most && isDigit(presentSign())) {
                value = value * 10 + (presentSign() - '0');
                position++;
                read++;
            }
            if (first == NONE) {
                first = value;
            } else {
                second = value;
            }
            return read > 0;
        }

        private boolean isDigit(char sign) {
            return sign >= '0' && sign <= '9';
        }

        // The sign 0 behind the end fits no pattern, whether it was fed or not.
        private char presentSign() {
            boolean inside = position >= 0 && position < length && position < text.length;
            return inside ? text[position] : (char) 0;
        }
    }

    /** The output line. */
    private static final class Line {
        private final char[] signs = new char[LINE_ROOM];
        private int length;

        private void showShelf(Larder larder, int shelf) {
            Shelves shelves = larder.shelves;
            length = 0;
            appendNumber(shelf);
            append(':');
            appendNumber(at(shelves.grams, shelf));
            appendIf(holds(shelves.blind, shelf), 'b');
            appendIf(larder.patrol.cat == shelf, 'C');
            int mice = larder.mice.countOn(shelf);
            for (int mouse = 0; mouse < mice; mouse++) {
                append('m');
            }
            for (int other = 0; other < shelves.count; other++) {
                if (shelves.areConnected(shelf, other)) {
                    append('-');
                    appendNumber(other);
                }
            }
        }

        private void showStops(Patrol patrol) {
            length = 0;
            for (int stop = 0; stop < patrol.count; stop++) {
                appendIf(stop > 0, ' ');
                appendNumber(at(patrol.stops, stop));
                appendIf(stop == patrol.goalStop, '*');
            }
        }

        private void append(char sign) {
            if (length >= 0 && length < signs.length) {
                signs[length] = sign;
                length++;
            }
        }

        private void appendIf(boolean wanted, char sign) {
            if (wanted) {
                append(sign);
            }
        }

        // All numbers of a line are below 100.
        private void appendNumber(int number) {
            appendIf(number >= 10, (char) ('0' + number / 10));
            append((char) ('0' + number % 10));
        }
    }
}
