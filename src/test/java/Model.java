import java.util.ArrayDeque;
import java.util.ArrayList;
import java.util.Comparator;
import java.util.Deque;
import java.util.HashMap;
import java.util.HashSet;
import java.util.List;
import java.util.Map;
import java.util.Set;
import java.util.TreeSet;
import java.util.function.Predicate;
import java.util.regex.Pattern;

/** A second program for the same document, written with the library and word for word, to compare with. */
final class Model {
    static final int[] CENTRES = {0, 3, 6, 9};

    static final class Army {
        int seat;
        int field;
        char order = 'h';
        int to = -1;
        int from = -1;
        int succeeded;
        int failed;

        Army(int seat, int field) {
            this.seat = seat;
            this.field = field;
        }

        Army copy() {
            Army twin = new Army(seat, field);
            twin.give(order, from, to);
            twin.succeeded = succeeded;
            twin.failed = failed;
            return twin;
        }

        int kind() {
            return "hms".indexOf(order);
        }

        int give(char newOrder, int newFrom, int newTo) {
            int before = kind();
            order = newOrder;
            from = newFrom;
            to = newTo;
            return before;
        }

        boolean moves() {
            return order == 'm';
        }
    }

    static final class State {
        final List<Army> armies = new ArrayList<>();
        final Map<Integer, Integer> owners = new HashMap<>();
        final int[] counts = new int[10];

        State copy() {
            State twin = new State();
            armies.forEach(army -> twin.armies.add(army.copy()));
            twin.owners.putAll(owners);
            System.arraycopy(counts, 0, twin.counts, 0, counts.length);
            return twin;
        }

        Army on(int field) {
            return armies.stream().filter(army -> army.field == field).findFirst().orElse(null);
        }

        long armiesOf(int seat) {
            return armies.stream().filter(army -> army.seat == seat).count();
        }

        long centresOf(int seat) {
            return owners.values().stream().filter(owner -> owner == seat).count();
        }

        Set<Integer> seenBy(int seat) {
            Set<Integer> seen = new TreeSet<>();
            for (Army army : armies) {
                if (army.seat == seat) {
                    seen.add(army.field);
                    seen.addAll(neighbours(army.field));
                }
            }
            return seen;
        }
    }

    /** One opening of a state, after the six numbered points of the document. */
    static final class Result {
        final State state;
        final Set<Army> cut = new HashSet<>();
        final Set<Army> counts = new HashSet<>();
        final Map<Army, Integer> strength = new HashMap<>();
        final Map<Army, Integer> reason = new HashMap<>();
        final Map<Army, Army> driver = new HashMap<>();
        final Map<Army, Integer> place = new HashMap<>();

        Result(State state) {
            this.state = state;
            supports();
            strengths();
            failing();
            coming();
        }

        private void supports() {
            for (Army army : state.armies) {
                if (army.order != 's') {
                    continue;
                }
                Army helped = state.on(army.from);
                boolean fits = helped != null && helped != army && (army.from == army.to
                        ? !helped.moves()
                        : helped.moves() && helped.to == army.to);
                if (anyMove(m -> m.seat != army.seat && m.to == army.field && m.field != army.to)) {
                    cut.add(army);
                }
                if (fits && !cut.contains(army)) {
                    counts.add(army);
                }
            }
        }

        private void strengths() {
            for (Army army : state.armies) {
                int goal = army.moves() ? army.to : army.field;
                long more = counts.stream().filter(s -> s.from == army.field && s.to == goal).count();
                strength.put(army, 1 + (int) more);
            }
        }

        private void failing() {
            boolean changed = true;
            while (changed) {
                changed = false;
                for (Army army : state.armies) {
                    if (army.moves() && !reason.containsKey(army) && reasonNow(army) != 0) {
                        reason.put(army, reasonNow(army));
                        changed = true;
                    }
                }
            }
            reason.replaceAll((army, why) -> reasonNow(army));
        }

        private int reasonNow(Army army) {
            int mine = strength.get(army);
            if (anyMove(m -> m != army && m.to == army.to && strength.get(m) >= mine)) {
                return 1;
            }
            Army there = state.on(army.to);
            if (there == null) {
                return 0;
            }
            if (there.moves() && there.to == army.field && strength.get(there) >= mine) {
                return 2;
            }
            if (there.moves() && !reason.containsKey(there)) {
                return 0;
            }
            if (there.seat == army.seat) {
                return 3;
            }
            int staying = there.moves() ? 1 : strength.get(there);
            return staying >= mine ? 4 : 0;
        }

        private boolean anyMove(Predicate<Army> test) {
            return state.armies.stream().filter(Army::moves).anyMatch(test);
        }

        boolean goes(Army army) {
            return army.moves() && !reason.containsKey(army);
        }

        private void coming() {
            Map<Integer, Army> comers = new HashMap<>();
            for (Army army : state.armies) {
                if (goes(army)) {
                    comers.put(army.to, army);
                }
            }
            List<Army> driven = new ArrayList<>();
            for (Army army : state.armies) {
                if (goes(army)) {
                    place.put(army, army.to);
                } else if (comers.containsKey(army.field)) {
                    driver.put(army, comers.get(army.field));
                    driven.add(army);
                } else {
                    place.put(army, army.field);
                }
            }
            driven.sort(Comparator.comparing(army -> -strength.get(driver.get(army))));
            driven.forEach(this::retreat);
        }

        private void retreat(Army army) {
            Set<Integer> room = neighbours(army.field);
            room.removeAll(place.values());
            room.remove(driver.get(army).field);
            reason.forEach((mover, why) -> {
                if (why == 1) {
                    room.remove(mover.to);
                }
            });
            place.put(army, room.isEmpty() ? -1 : room.iterator().next());
        }

        int danger() {
            int found = -1;
            for (int i = 0; i < state.armies.size(); i++) {
                Army by = driver.get(state.armies.get(i));
                if (by != null && (found == -1
                        || strength.get(by) > strength.get(driver.get(state.armies.get(found))))) {
                    found = i;
                }
            }
            return found;
        }

        int ifYear(int seat) {
            Map<Integer, Integer> owners = new HashMap<>(state.owners);
            place.forEach((army, field) -> {
                if (isCentre(field)) {
                    owners.put(field, army.seat);
                }
            });
            return (int) owners.values().stream().filter(owner -> owner == seat).count();
        }
    }

    private State now = new State();
    private State kept = null;
    private final Deque<State> saved = new ArrayDeque<>();
    private final StringBuilder buffer = new StringBuilder();

    static boolean isCentre(int field) {
        return field >= 0 && field % 3 == 0;
    }

    static Set<Integer> neighbours(int field) {
        Set<Integer> near = new TreeSet<>();
        for (int step : new int[] {1, 4, 8, 11}) {
            near.add(field + step);
            near.add(field - step);
        }
        near.removeIf(other -> other < 0 || other > 11);
        return near;
    }

    private static int mask(Set<Integer> bits) {
        return bits.stream().mapToInt(bit -> 1 << bit).sum();
    }

    private void bounds(boolean inside) {
        if (!inside) {
            throw new IndexOutOfBoundsException();
        }
    }

    private void argument(boolean fits) {
        if (!fits) {
            throw new IllegalArgumentException();
        }
    }

    private void state(boolean fits) {
        if (!fits) {
            throw new IllegalStateException();
        }
    }

    private static boolean in(int value, int most) {
        return value >= 0 && value <= most;
    }

    private void save() {
        saved.addLast(now.copy());
        if (saved.size() > 6) {
            saved.removeFirst();
        }
    }

    int army(int seat, int field) {
        bounds(in(seat, 2) && in(field, 11));
        state(now.on(field) == null && now.armies.size() < 9);
        save();
        now.armies.add(new Army(seat, field));
        return now.armies.size() - 1;
    }

    int drop(int army) {
        bounds(in(army, now.armies.size() - 1));
        save();
        now.armies.remove(army);
        return now.armies.size();
    }

    private void checkOrder(int army, char order, int from, int to) {
        bounds(in(army, now.armies.size() - 1));
        if (order == 'h') {
            return;
        }
        bounds(in(to, 11) && (order == 'm' || in(from, 11)));
        argument(neighbours(now.armies.get(army).field).contains(to));
        argument(order == 'm' || from == to || neighbours(to).contains(from));
    }

    private int order(int army, char order, int from, int to) {
        checkOrder(army, order, from, to);
        save();
        return now.armies.get(army).give(order, from, to);
    }

    int hold(int army) {
        return order(army, 'h', -1, -1);
    }

    int move(int army, int to) {
        return order(army, 'm', -1, to);
    }

    int support(int army, int from, int to) {
        return order(army, 's', from, to);
    }

    int open() {
        save();
        Result result = new Result(now);
        now.counts[3]++;
        now.counts[6] += result.driver.size();
        for (Army army : now.armies) {
            if (army.moves()) {
                boolean goes = result.goes(army);
                army.succeeded += goes ? 1 : 0;
                army.failed += goes ? 0 : 1;
                now.counts[goes ? 4 : 5]++;
            }
        }
        int before = now.armies.size();
        now.armies.removeIf(army -> result.place.get(army) == -1);
        now.counts[7] += before - now.armies.size();
        for (Army army : now.armies) {
            army.field = result.place.get(army);
            army.give('h', -1, -1);
        }
        now.counts[2] = 1 - now.counts[2];
        if (now.counts[2] == 0) {
            endYear();
        }
        return result.reason.size();
    }

    private void endYear() {
        now.armies.forEach(army -> {
            if (isCentre(army.field)) {
                now.owners.put(army.field, army.seat);
            }
        });
        for (int seat = 0; seat < 3; seat++) {
            if (now.armiesOf(seat) > now.centresOf(seat) + 1) {
                while (now.armiesOf(seat) > now.centresOf(seat) + 1) {
                    takeLast(seat);
                }
            } else if (now.armiesOf(seat) < now.centresOf(seat) && now.armies.size() < 9) {
                buildOne(seat);
            }
        }
        now.counts[1]++;
    }

    private void takeLast(int seat) {
        Army last = null;
        for (Army army : now.armies) {
            last = army.seat == seat ? army : last;
        }
        now.armies.remove(last);
        now.counts[9]++;
    }

    private void buildOne(int seat) {
        for (int centre : CENTRES) {
            if (now.owners.getOrDefault(centre, -1) == seat && now.on(centre) == null) {
                now.armies.add(new Army(seat, centre));
                now.counts[8]++;
                return;
            }
        }
    }

    int append(int code) {
        argument(code >= 33 && code <= 126);
        state(buffer.length() < 60);
        return buffer.append((char) code).length();
    }

    int clearBuffer() {
        int length = buffer.length();
        buffer.setLength(0);
        return length;
    }

    private static final String NUMBER = "(10|11|[0-9])";
    private static final String PART = "[0-8](h|m" + NUMBER + "|s" + NUMBER + "-" + NUMBER + ")";
    private static final Pattern ORDERS = Pattern.compile(PART + "(;" + PART + ")*");
    private static final String[] ENDINGS = {"", "h", "0h", "0", "-0", "0-0"};

    static boolean isComplete(String text) {
        return ORDERS.matcher(text).matches();
    }

    static boolean canBegin(String text) {
        for (String ending : ENDINGS) {
            if (isComplete(text + ending)) {
                return true;
            }
        }
        return false;
    }

    int firstError() {
        for (int i = 0; i < buffer.length(); i++) {
            if (!canBegin(buffer.substring(0, i + 1))) {
                return i;
            }
        }
        return buffer.length();
    }

    int orders() {
        argument(isComplete(buffer.toString()));
        save();
        int given = 0;
        for (String part : buffer.toString().split(";")) {
            given += giveIfPossible(part) ? 1 : 0;
        }
        buffer.setLength(0);
        return given;
    }

    private boolean giveIfPossible(String part) {
        int army = part.charAt(0) - '0';
        char order = part.charAt(1);
        String[] fields = part.substring(2).split("-");
        int to = order == 'h' ? -1 : Integer.parseInt(fields[fields.length - 1]);
        int from = order == 's' ? Integer.parseInt(fields[0]) : -1;
        try {
            checkOrder(army, order, from, to);
        } catch (IndexOutOfBoundsException | IllegalArgumentException e) {
            return false;
        }
        now.armies.get(army).give(order, from, to);
        return true;
    }

    int undo() {
        state(!saved.isEmpty());
        now = saved.removeLast();
        return saved.size();
    }

    int keep() {
        kept = now.copy();
        return kept.armies.size();
    }

    int restore() {
        state(kept != null);
        save();
        now = kept.copy();
        return now.armies.size();
    }

    int armyOf(int army, int what) {
        bounds(in(army, now.armies.size() - 1));
        argument(in(what, 6));
        Army it = now.armies.get(army);
        return new int[] {it.seat, it.field, it.kind(), it.to, it.from, it.succeeded, it.failed}[what];
    }

    int field(int field, int what) {
        bounds(in(field, 11));
        argument(in(what, 4));
        int seers = 0;
        for (int seat = 0; seat < 3; seat++) {
            seers += now.seenBy(seat).contains(field) ? 1 << seat : 0;
        }
        return new int[] {now.armies.indexOf(now.on(field)), isCentre(field) ? 1 : 0,
            now.owners.getOrDefault(field, -1), seers, mask(neighbours(field))}[what];
    }

    int seat(int seat, int what) {
        bounds(in(seat, 2));
        argument(in(what, 4));
        Set<Integer> seen = now.seenBy(seat);
        int lowest = now.armies.stream().filter(army -> army.seat == seat)
                .mapToInt(army -> army.field).min().orElse(-1);
        long others = now.armies.stream().filter(army -> army.seat != seat && seen.contains(army.field)).count();
        return new int[] {(int) now.armiesOf(seat), (int) now.centresOf(seat), mask(seen), lowest,
            (int) others}[what];
    }

    int count(int what) {
        argument(in(what, 12));
        if (what == 0) {
            return now.armies.size();
        }
        if (what == 12) {
            return saved.size();
        }
        if (what >= 10) {
            return (int) now.armies.stream().filter(army -> army.kind() == what - 9).count();
        }
        return now.counts[what];
    }

    int ifOpened(int army, int what) {
        bounds(in(army, now.armies.size() - 1));
        argument(in(what, 5));
        Result result = new Result(now);
        Army it = now.armies.get(army);
        return new int[] {result.place.get(it), result.strength.get(it), result.reason.getOrDefault(it, 0),
            result.driver.containsKey(it) ? 1 : 0, result.counts.contains(it) ? 1 : 0,
            result.cut.contains(it) ? 1 : 0}[what];
    }

    int canReach(int army) {
        bounds(in(army, now.armies.size() - 1));
        Set<Integer> reached = new TreeSet<>();
        for (int to : neighbours(now.armies.get(army).field)) {
            State trial = now.copy();
            trial.armies.get(army).give('m', -1, to);
            if (new Result(trial).goes(trial.armies.get(army))) {
                reached.add(to);
            }
        }
        return mask(reached);
    }

    int danger() {
        return new Result(now).danger();
    }

    int ifYear(int seat) {
        bounds(in(seat, 2));
        return new Result(now).ifYear(seat);
    }

    double success() {
        double moves = now.counts[4] + now.counts[5];
        return moves == 0 ? 1.0 : now.counts[4] / moves;
    }

    long digest() {
        List<Long> values = new ArrayList<>();
        addAll(values, 13, this::count);
        for (int army = 0; army < now.armies.size(); army++) {
            int it = army;
            addAll(values, 7, what -> armyOf(it, what));
            addAll(values, 6, what -> ifOpened(it, what));
            values.add((long) canReach(it));
        }
        for (int field = 0; field < 12; field++) {
            int it = field;
            addAll(values, 5, what -> field(it, what));
        }
        for (int seat = 0; seat < 3; seat++) {
            int it = seat;
            addAll(values, 5, what -> seat(it, what));
            values.add((long) ifYear(it));
        }
        values.add((long) danger());
        values.add(Double.doubleToLongBits(success()));
        values.add((long) buffer.length());
        buffer.chars().forEach(code -> values.add((long) code));
        long hash = 3701;
        for (long value : values) {
            hash = 31 * hash + value;
        }
        return hash;
    }

    private static void addAll(List<Long> values, int most, java.util.function.IntUnaryOperator look) {
        for (int what = 0; what < most; what++) {
            values.add((long) look.applyAsInt(what));
        }
    }
}
