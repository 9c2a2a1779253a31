import java.util.ArrayDeque;
import java.util.ArrayList;
import java.util.Arrays;
import java.util.Deque;
import java.util.List;
import java.util.NoSuchElementException;
import java.util.TreeMap;
import java.util.TreeSet;
import java.util.regex.Matcher;
import java.util.regex.Pattern;

/**
 * The document once more, written another way (lists, copies, a regular expression, exceptions),
 * so that ModelRuns can hold the class against it.
 */
final class Model {
    private static final Pattern TEXT = textPattern();

    /** A refusal of a command: an exception, and a denial if it is one. */
    private static final class Refused extends RuntimeException {
        private static final long serialVersionUID = 1L;
        private final int number;
        private final int detail;

        Refused(int number, int detail) {
            this.number = number;
            this.detail = detail;
        }
    }

    private static final class Mouse {
        private int shelf;
        private int eaten;
        private int hunger;

        Mouse(int shelf, int eaten, int hunger) {
            this.shelf = shelf;
            this.eaten = eaten;
            this.hunger = hunger;
        }
    }

    private static final class State {
        private List<Integer> cheese = new ArrayList<>();
        private List<Boolean> blind = new ArrayList<>();
        private List<TreeSet<Integer>> links = new ArrayList<>();
        private List<Integer> stops = new ArrayList<>();
        private List<Mouse> mice = new ArrayList<>();
        private int cat;
        private int goal;
        private int rate = 4;
        private int seed;
        private int minute;
        private int put;
        private int eaten;
        private int caught;
        private int gone;
        private int rinds;

        State copy() {
            State other = new State();
            other.cheese = new ArrayList<>(cheese);
            other.blind = new ArrayList<>(blind);
            for (TreeSet<Integer> of : links) {
                other.links.add(new TreeSet<>(of));
            }
            other.stops = new ArrayList<>(stops);
            for (Mouse mouse : mice) {
                other.mice.add(new Mouse(mouse.shelf, mouse.eaten, mouse.hunger));
            }
            other.cat = cat;
            other.goal = goal;
            other.rate = rate;
            other.seed = seed;
            other.minute = minute;
            other.put = put;
            other.eaten = eaten;
            other.caught = caught;
            other.gone = gone;
            other.rinds = rinds;
            return other;
        }

        int passages() {
            int ends = 0;
            for (TreeSet<Integer> of : links) {
                ends += of.size();
            }
            return ends / 2;
        }
    }

    private State state = new State();
    private State snapshot;
    private final Deque<State> earlier = new ArrayDeque<>();
    private final StringBuilder text = new StringBuilder();
    private String line = "";
    private Integer fault;
    private Integer denial;
    private int detail;
    private Integer cause;

    private static Pattern textPattern() {
        String n = "\\d\\d?";
        String command = "(?:shelf N|link N-N|cut N-N|hide N|show N|fill N N|stop N|drop \\d|rate N|seed \\d\\d?\\d?\\d?|wait N)";
        command = command.replace("N", n);
        return Pattern.compile(command + "(?:;" + command + ")*");
    }

    private static void demandShelf(State s, int... shelves) {
        for (int shelf : shelves) {
            if (shelf < 0 || shelf >= s.cheese.size()) {
                throw new IndexOutOfBoundsException();
            }
        }
    }

    private static void demandRange(int value, int least, int most) {
        if (value < least || value > most) {
            throw new IllegalArgumentException();
        }
    }

    private static void deny(boolean when, int number, int detail) {
        if (when) {
            throw new Refused(number, detail);
        }
    }

    private static int apply(State s, String verb, int a, int b) {
        switch (verb) {
            case "shelf":
                demandRange(a, 0, 99);
                deny(s.cheese.size() == 12, 1, 12);
                s.cheese.add(a);
                s.blind.add(false);
                s.links.add(new TreeSet<>());
                s.put += a;
                return s.cheese.size() - 1;
            case "link":
                demandShelf(s, a, b);
                deny(a == b, 2, a);
                deny(s.links.get(a).contains(b), 3, s.passages());
                deny(s.passages() == 20, 1, 20);
                s.links.get(a).add(b);
                s.links.get(b).add(a);
                return s.passages();
            case "cut":
                demandShelf(s, a, b);
                deny(!s.links.get(a).contains(b), 4, s.passages());
                s.links.get(a).remove(b);
                s.links.get(b).remove(a);
                return s.passages();
            case "hide":
            case "show":
                demandShelf(s, a);
                boolean wanted = verb.equals("hide");
                deny(s.blind.get(a) == wanted, 5, wanted ? 1 : 0);
                s.blind.set(a, wanted);
                return (int) s.blind.stream().filter(is -> is).count();
            case "fill":
                demandShelf(s, a);
                demandRange(b, 1, 99);
                deny(s.cheese.get(a) + b > 99, 1, 99);
                s.cheese.set(a, s.cheese.get(a) + b);
                s.put += b;
                return s.cheese.get(a);
            default:
                return applyToPatrolOrTime(s, verb, a);
        }
    }

    private static int applyToPatrolOrTime(State s, String verb, int a) {
        int before;
        switch (verb) {
            case "stop":
                demandShelf(s, a);
                deny(s.stops.size() == 10, 1, 10);
                s.stops.add(a);
                return s.stops.size();
            case "drop":
                if (a < 0 || a >= s.stops.size()) {
                    throw new IndexOutOfBoundsException();
                }
                int shelf = s.stops.remove(a);
                if (a < s.goal) {
                    s.goal -= 1;
                } else if (a == s.goal && s.goal == s.stops.size()) {
                    s.goal = 0;
                }
                return shelf;
            case "rate":
                demandRange(a, 0, 16);
                before = s.rate;
                s.rate = a;
                return before;
            case "seed":
                demandRange(a, 0, 1023);
                before = s.seed;
                s.seed = a;
                return before;
            case "wait":
                demandRange(a, 1, 60);
                before = s.caught;
                for (int minute = 0; minute < a; minute++) {
                    minute(s);
                }
                return s.caught - before;
            default:
                throw new AssertionError(verb);
        }
    }

    /** All shelves that can be reached, each with its distance, by going round until nothing new comes. */
    private static TreeMap<Integer, Integer> distancesFrom(State s, int shelf) {
        TreeMap<Integer, Integer> found = new TreeMap<>();
        found.put(shelf, 0);
        for (int round = 0; round < 12; round++) {
            for (int from : new ArrayList<>(found.keySet())) {
                if (found.get(from) == round) {
                    for (int to : s.links.get(from)) {
                        found.putIfAbsent(to, round + 1);
                    }
                }
            }
        }
        return found;
    }

    private static int walkedTo(State s) {
        if (s.stops.isEmpty()) {
            return s.cat;
        }
        int target = s.stops.get(s.goal);
        if (target == s.cat || !distancesFrom(s, s.cat).containsKey(target)) {
            return s.cat;
        }
        int best = -1;
        for (int neighbour : s.links.get(s.cat)) {
            int far = distancesFrom(s, neighbour).get(target);
            if (best < 0 || far < distancesFrom(s, best).get(target)) {
                best = neighbour;
            }
        }
        return best;
    }

    private static void minute(State s) {
        s.cat = walkedTo(s);
        if (!s.stops.isEmpty() && s.stops.get(s.goal) == s.cat) {
            s.goal = (s.goal + 1) % s.stops.size();
        }
        List<Mouse> left = new ArrayList<>();
        for (Mouse mouse : s.mice) {
            if (mouse.shelf == s.cat && !s.blind.get(s.cat)) {
                s.caught += 1;
                s.rinds += mouse.eaten;
            } else {
                left.add(mouse);
            }
        }
        s.mice = new ArrayList<>();
        for (Mouse mouse : left) {
            visit(s, mouse);
        }
        s.seed = (s.seed * 109 + 89) % 1024;
        if (s.seed % 16 < s.rate && !s.cheese.isEmpty() && s.mice.size() < 8) {
            s.mice.add(new Mouse(s.seed / 16 % s.cheese.size(), 0, 0));
        }
        s.minute += 1;
    }

    private static void visit(State s, Mouse mouse) {
        int cheese = s.cheese.get(mouse.shelf);
        if (cheese > 0) {
            s.cheese.set(mouse.shelf, cheese - 1);
            s.eaten += 1;
            mouse.eaten += 1;
            mouse.hunger = 0;
            s.mice.add(mouse);
            return;
        }
        mouse.hunger += 1;
        if (mouse.hunger == 3) {
            s.gone += 1;
            return;
        }
        List<Integer> choice = new ArrayList<>(s.links.get(mouse.shelf));
        choice.sort((x, y) -> s.cheese.get(y) - s.cheese.get(x));
        mouse.shelf = choice.isEmpty() ? mouse.shelf : choice.get(0);
        s.mice.add(mouse);
    }

    private void remember(State before) {
        earlier.addLast(before);
        if (earlier.size() > 8) {
            earlier.removeFirst();
        }
    }

    private long change(String verb, int a, int b) {
        State before = state.copy();
        try {
            int answer = apply(state, verb, a, b);
            remember(before);
            return answer;
        } catch (Refused refused) {
            denial = refused.number;
            detail = refused.detail;
            cause = null;
            throw new UnsupportedOperationException();
        }
    }

    static int faultOf(String text) {
        for (int length = 1; length <= text.length(); length++) {
            Matcher prefix = TEXT.matcher(text.substring(0, length));
            if (!prefix.matches() && !prefix.hitEnd()) {
                return length - 1;
            }
        }
        return TEXT.matcher(text).matches() ? -1 : text.length();
    }

    private long execute() {
        String read = text.toString();
        text.setLength(0);
        int position = faultOf(read);
        if (position >= 0) {
            fault = position;
            throw new IllegalArgumentException();
        }
        State trial = state.copy();
        String[] commands = read.split(";");
        for (int index = 0; index < commands.length; index++) {
            String[] parts = commands[index].split("[ -]");
            int number = 7;
            try {
                apply(trial, parts[0], Integer.parseInt(parts[1]), parts.length > 2 ? Integer.parseInt(parts[2]) : 0);
                continue;
            } catch (Refused refused) {
                number = refused.number;
            } catch (IndexOutOfBoundsException | IllegalArgumentException other) {
                number = 7;
            }
            denial = 6;
            detail = index;
            cause = number;
            throw new UnsupportedOperationException();
        }
        remember(state);
        state = trial;
        return commands.length;
    }

    private long distance(int a, int b) {
        demandShelf(state, a, b);
        Integer found = distancesFrom(state, a).get(b);
        return need(found);
    }

    private static int need(Integer value) {
        if (value == null) {
            throw new NoSuchElementException();
        }
        return value;
    }

    private static void needSome(boolean some) {
        if (!some) {
            throw new NoSuchElementException();
        }
    }

    private long lap() {
        long sum = 0;
        for (int stop = 0; stop < state.stops.size(); stop++) {
            sum += distance(state.stops.get(stop), state.stops.get((stop + 1) % state.stops.size()));
        }
        return sum;
    }

    private long groups() {
        long groups = 0;
        for (int shelf = 0; shelf < state.cheese.size(); shelf++) {
            groups += distancesFrom(state, shelf).firstKey() == shelf ? 1 : 0;
        }
        return groups;
    }

    private long byCheese(int rank) {
        needSome(rank >= 0 && rank < state.cheese.size());
        List<Integer> order = new ArrayList<>();
        for (int shelf = 0; shelf < state.cheese.size(); shelf++) {
            order.add(shelf);
        }
        order.sort((x, y) -> state.cheese.get(y) - state.cheese.get(x));
        return order.get(rank);
    }

    private long predict(int minutes) {
        demandRange(minutes, 0, 60);
        State trial = state.copy();
        for (int minute = 0; minute < minutes; minute++) {
            minute(trial);
        }
        return trial.caught - state.caught;
    }

    private Mouse mouse(int index) {
        if (index < 0 || index >= state.mice.size()) {
            throw new IndexOutOfBoundsException();
        }
        return state.mice.get(index);
    }

    private long miceOn(int shelf) {
        demandShelf(state, shelf);
        return state.mice.stream().filter(mouse -> mouse.shelf == shelf).count();
    }

    private long writeShelf(int shelf) {
        demandShelf(state, shelf);
        line = shelf + ":" + state.cheese.get(shelf) + (state.blind.get(shelf) ? "b" : "") + (state.cat == shelf ? "C" : "")
                + "m".repeat((int) miceOn(shelf));
        for (int neighbour : state.links.get(shelf)) {
            line += "-" + neighbour;
        }
        return line.length();
    }

    private long writePatrol() {
        List<String> parts = new ArrayList<>();
        for (int stop = 0; stop < state.stops.size(); stop++) {
            parts.add(state.stops.get(stop) + (stop == state.goal ? "*" : ""));
        }
        line = String.join(" ", parts);
        return line.length();
    }

    private long lineCharacter(int index) {
        if (index < 0 || index >= line.length()) {
            throw new IndexOutOfBoundsException();
        }
        return line.charAt(index);
    }

    private long feed(int sign) {
        if (text.length() == 60) {
            throw new IllegalStateException();
        }
        return text.append((char) sign).length();
    }

    private long undo() {
        if (earlier.isEmpty()) {
            throw new IllegalStateException();
        }
        state = earlier.removeLast();
        return earlier.size();
    }

    private long restore() {
        if (snapshot == null) {
            throw new IllegalStateException();
        }
        state = snapshot.copy();
        earlier.clear();
        return state.cheese.size();
    }

    private long stop(int stop) {
        if (stop < 0 || stop >= state.stops.size()) {
            throw new IndexOutOfBoundsException();
        }
        return state.stops.get(stop);
    }

    private long share(boolean mean) {
        int number = mean ? state.cheese.size() : state.caught + state.gone;
        if (number == 0) {
            throw new ArithmeticException();
        }
        int sum = state.cheese.stream().mapToInt(grams -> grams).sum();
        return mean ? Double.doubleToLongBits((double) sum / (double) number)
                : Float.floatToIntBits((float) state.caught / (float) number);
    }

    /** Answers the call with this number, by the order of the face; booleans as 1 or 0, fractions as bits. */
    long call(int number, int a, int b) {
        String[] changes = {"shelf", "link", "cut", b == 1 ? "hide" : "show", "fill"};
        switch (number) {
            case 0: case 1: case 2: case 3: case 4: return change(changes[number], a, b);
            case 5: return state.cheese.size();
            case 6: return state.passages();
            case 7: demandShelf(state, a); return state.cheese.get(a);
            case 8: demandShelf(state, a); return state.blind.get(a) ? 1 : 0;
            case 9: demandShelf(state, a); return state.links.get(a).size();
            case 10: case 11: return distance(a, b);
            case 12: return groups();
            case 13: return byCheese(a);
            case 14: return change("stop", a, 0);
            case 15: return change("drop", a, 0);
            case 16: return state.stops.size();
            case 17: return stop(a);
            case 18: needSome(!state.cheese.isEmpty()); return state.cat;
            case 19: needSome(!state.stops.isEmpty()); return state.goal;
            case 20: needSome(!state.cheese.isEmpty()); return walkedTo(state);
            case 21: return lap();
            case 22: return change("wait", a, 0);
            case 23: return predict(a);
            case 24: return change("rate", a, 0);
            case 25: return change("seed", a, 0);
            case 26: return state.seed;
            default: return callMore(number, a);
        }
    }

    private long callMore(int number, int a) {
        switch (number) {
            case 27: return state.minute;
            case 28: return state.mice.size();
            case 29: return mouse(a).shelf;
            case 30: return mouse(a).eaten;
            case 31: return mouse(a).hunger;
            case 32: return miceOn(a);
            case 33: return state.cheese.stream().mapToInt(grams -> grams).sum();
            case 34: return state.put - state.eaten;
            case 35: return state.eaten;
            case 36: return state.caught;
            case 37: return state.gone;
            case 38: return state.rinds;
            case 39: return share(true);
            case 40: return share(false);
            case 41: return feed(a);
            case 42: return execute();
            case 43: return need(fault);
            case 44: return writeShelf(a);
            case 45: return writePatrol();
            case 46: return lineCharacter(a);
            case 47: return need(denial);
            case 48: need(denial); return detail;
            case 49: need(denial); return need(cause);
            case 50: return undo();
            case 51: return earlier.size();
            case 52: snapshot = state.copy(); return state.cheese.size();
            case 53: return restore();
            default: throw new AssertionError(Arrays.asList(number, a));
        }
    }
}
