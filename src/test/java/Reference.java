import java.util.ArrayDeque;
import java.util.ArrayList;
import java.util.HashMap;
import java.util.HashSet;
import java.util.LinkedHashMap;
import java.util.List;
import java.util.Map;
import java.util.PriorityQueue;
import java.util.Set;
import java.util.TreeSet;

/**
 * A second, slow and plain program for the same document, written with sets, maps and lists, that
 * shares no idea with CarTangos: a test compares the two.
 */
final class Reference {
    private record Car(int lane, int length) {
    }

    private record Slide(int car, int by) {
    }

    private record State(List<Car> cars, List<Integer> places, Set<Integer> walls, List<Slide> log,
            Integer stop) {
    }

    private static final Set<String> PARTS = allParts();

    private List<Car> cars = new ArrayList<>();
    private List<Integer> places = new ArrayList<>();
    private Set<Integer> walls = new TreeSet<>();
    private List<Slide> log = new ArrayList<>();
    private Integer stop = null;
    private String text = "";
    private final List<State> saved = new ArrayList<>();
    private State snapshot = null;

    private static Set<String> allParts() {
        Set<String> parts = new HashSet<>(List.of("b", "d"));
        for (int cell = 0; cell < 25; cell++) {
            parts.add("w" + cell);
        }
        for (int a = 0; a <= 5; a++) {
            for (int steps = 1; steps <= 3; steps++) {
                parts.add(a + "+" + steps);
                parts.add(a + "-" + steps);
            }
            for (int place = 0; place <= 3 && a <= 4; place++) {
                for (int length = 2; length <= 3; length++) {
                    parts.add("h" + a + "." + place + "*" + length);
                    parts.add("v" + a + "." + place + "*" + length);
                }
            }
        }
        return parts;
    }

    static List<String> partsInOrder() {
        return new ArrayList<>(new TreeSet<>(PARTS));
    }

    // ---- states

    private State state() {
        return new State(new ArrayList<>(cars), new ArrayList<>(places), new TreeSet<>(walls),
                new ArrayList<>(log), stop);
    }

    private void set(State state) {
        cars = new ArrayList<>(state.cars);
        places = new ArrayList<>(state.places);
        walls = new TreeSet<>(state.walls);
        log = new ArrayList<>(state.log);
        stop = state.stop;
    }

    private void save(State before) {
        saved.add(before);
        if (saved.size() > 5) {
            saved.remove(0);
        }
    }

    // ---- geometry

    private static List<Integer> cells(Car car, int place) {
        List<Integer> cells = new ArrayList<>();
        for (int i = place; i < place + car.length; i++) {
            cells.add(car.lane < 5 ? 5 * car.lane + i : 5 * i + car.lane - 5);
        }
        return cells;
    }

    private static Set<Integer> taken(List<Car> cars, List<Integer> places, Set<Integer> walls) {
        Set<Integer> taken = new HashSet<>(walls);
        for (int i = 0; i < cars.size(); i++) {
            taken.addAll(cells(cars.get(i), places.get(i)));
        }
        return taken;
    }

    private static boolean isRedOut(List<Car> cars, List<Integer> places) {
        return !cars.isEmpty() && cells(cars.get(0), places.get(0)).stream().anyMatch(c -> c % 5 == 4);
    }

    /** The slides from an arrangement, in the order that the first plan asks for, with where they lead. */
    private static Map<Slide, List<Integer>> slides(List<Car> cars, List<Integer> places, Set<Integer> walls) {
        Map<Slide, List<Integer>> slides = new LinkedHashMap<>();
        for (int car = 0; car < cars.size(); car++) {
            List<Car> others = new ArrayList<>(cars);
            List<Integer> othersPlaces = new ArrayList<>(places);
            others.remove(car);
            othersPlaces.remove(car);
            Set<Integer> taken = taken(others, othersPlaces, walls);
            for (int by = -3; by <= 3; by++) {
                int to = places.get(car) + by;
                boolean isFine = by != 0 && to >= 0 && to + cars.get(car).length <= 5;
                int least = Math.min(to, places.get(car));
                int greatest = Math.max(to, places.get(car));
                for (int at = least; isFine && at <= greatest; at++) {
                    for (int cell : cells(cars.get(car), at)) {
                        isFine &= !taken.contains(cell);
                    }
                }
                if (isFine) {
                    List<Integer> next = new ArrayList<>(places);
                    next.set(car, to);
                    slides.put(new Slide(car, by), next);
                }
            }
        }
        return slides;
    }

    // ---- searches

    private static Map<List<Integer>, Integer> distances(List<Car> cars, List<Integer> from, Set<Integer> walls) {
        Map<List<Integer>, Integer> distances = new HashMap<>();
        ArrayDeque<List<Integer>> open = new ArrayDeque<>();
        distances.put(from, 0);
        open.add(from);
        while (!open.isEmpty()) {
            List<Integer> at = open.poll();
            for (List<Integer> next : slides(cars, at, walls).values()) {
                if (!distances.containsKey(next)) {
                    distances.put(next, distances.get(at) + 1);
                    open.add(next);
                }
            }
        }
        return distances;
    }

    private static int fewest(List<Car> cars, List<Integer> from, Set<Integer> walls) {
        int fewest = -1;
        for (Map.Entry<List<Integer>, Integer> entry : distances(cars, from, walls).entrySet()) {
            if (isRedOut(cars, entry.getKey()) && (fewest < 0 || entry.getValue() < fewest)) {
                fewest = entry.getValue();
            }
        }
        return fewest;
    }

    /** Dijkstra over whole slides; a step costs 1, or the length of its car. */
    private int cheapest(boolean isFuel) {
        record Entry(List<Integer> at, int cost) {
        }
        PriorityQueue<Entry> open = new PriorityQueue<>((a, b) -> Integer.compare(a.cost, b.cost));
        Set<List<Integer>> closed = new HashSet<>();
        open.add(new Entry(places, 0));
        while (!open.isEmpty()) {
            Entry entry = open.poll();
            if (!closed.add(entry.at)) {
                continue;
            }
            if (isRedOut(cars, entry.at)) {
                return entry.cost;
            }
            slides(cars, entry.at, walls).forEach((slide, next) -> {
                int price = isFuel ? cars.get(slide.car).length : 1;
                open.add(new Entry(next, entry.cost + price * Math.abs(slide.by)));
            });
        }
        return -1;
    }

    private Slide next() {
        int fewest = fewest(cars, places, walls);
        if (fewest <= 0) {
            throw new IllegalStateException();
        }
        for (Map.Entry<Slide, List<Integer>> entry : slides(cars, places, walls).entrySet()) {
            if (fewest(cars, entry.getValue(), walls) == fewest - 1) {
                return entry.getKey();
            }
        }
        throw new AssertionError("a plan has a first slide");
    }

    // ---- what changes, without the saving

    private int doAdd(int lane, int place, int length) {
        if (lane < 0 || lane > 9) {
            throw new IndexOutOfBoundsException();
        }
        if (length != 2 && length != 3 || place < 0 || (long) place + length > 5) {
            throw new IllegalArgumentException();
        }
        Car car = new Car(lane, length);
        Set<Integer> taken = taken(cars, places, walls);
        if (cars.size() == 6 || cells(car, place).stream().anyMatch(taken::contains)
                || cars.isEmpty() && lane > 4) {
            throw new IllegalStateException();
        }
        cars.add(car);
        places.add(place);
        log.clear();
        return cars.size() - 1;
    }

    private boolean doWall(int cell) {
        if (cell < 0 || cell > 24) {
            throw new IndexOutOfBoundsException();
        }
        if (carOn(cell) >= 0 || !walls.contains(cell) && walls.size() == 4) {
            throw new IllegalStateException();
        }
        log.clear();
        if (walls.remove(cell)) {
            return false;
        }
        return walls.add(cell);
    }

    private List<Integer> behind(int car, int by) {
        if (car < 0 || car >= cars.size()) {
            throw new IndexOutOfBoundsException();
        }
        if (by == 0 || by < -3 || by > 3) {
            throw new IllegalArgumentException();
        }
        List<Integer> next = slides(cars, places, walls).get(new Slide(car, by));
        if (next == null) {
            throw new IllegalStateException();
        }
        return next;
    }

    private int doSlide(int car, int by) {
        List<Integer> next = behind(car, by);
        if (log.size() == 60) {
            throw new IllegalStateException();
        }
        places = next;
        log.add(new Slide(car, by));
        return places.get(car);
    }

    private int doTakeBack() {
        if (log.isEmpty()) {
            throw new IllegalStateException();
        }
        Slide slide = log.remove(log.size() - 1);
        places = new ArrayList<>(places);
        places.set(slide.car, places.get(slide.car) - slide.by);
        return slide.car;
    }

    private int doDrive() {
        int fewest = fewest(cars, places, walls);
        if (fewest < 0 || log.size() + fewest > 60) {
            throw new IllegalStateException();
        }
        while (!isRedOut(cars, places)) {
            Slide slide = next();
            doSlide(slide.car, slide.by);
        }
        return fewest;
    }

    private void doPart(String part) {
        char first = part.charAt(0);
        if (first == 'h' || first == 'v') {
            doAdd(part.charAt(1) - '0' + (first == 'v' ? 5 : 0), part.charAt(3) - '0', part.charAt(5) - '0');
        } else if (first == 'w') {
            doWall(Integer.parseInt(part.substring(1)));
        } else if (first == 'b') {
            doTakeBack();
        } else if (first == 'd') {
            doDrive();
        } else {
            doSlide(first - '0', Integer.parseInt(part.substring(1)));
        }
    }

    // ---- the face

    int addCar(int lane, int place, int length) {
        State before = state();
        int answer = doAdd(lane, place, length);
        save(before);
        return answer;
    }

    int dropLast() {
        if (cars.isEmpty()) {
            throw new IllegalStateException();
        }
        save(state());
        cars.remove(cars.size() - 1);
        places.remove(places.size() - 1);
        log.clear();
        return cars.size();
    }

    boolean toggleWall(int cell) {
        State before = state();
        boolean answer = doWall(cell);
        save(before);
        return answer;
    }

    int slide(int car, int by) {
        State before = state();
        int answer = doSlide(car, by);
        save(before);
        return answer;
    }

    int takeBack() {
        State before = state();
        int answer = doTakeBack();
        save(before);
        return answer;
    }

    int rewind() {
        save(state());
        int count = log.size();
        while (!log.isEmpty()) {
            doTakeBack();
        }
        return count;
    }

    int driveOut() {
        State before = state();
        int answer = doDrive();
        save(before);
        return answer;
    }

    int append(int code) {
        if (code < 33 || code > 126) {
            throw new IllegalArgumentException();
        }
        if (text.length() == 60) {
            throw new IllegalStateException();
        }
        text += (char) code;
        return text.length();
    }

    int clearBuffer() {
        int length = text.length();
        text = "";
        return length;
    }

    int firstError() {
        for (int i = 0; i < text.length(); i++) {
            String[] parts = text.substring(0, i + 1).split(";", -1);
            for (int k = 0; k < parts.length; k++) {
                String part = parts[k];
                boolean isLast = k == parts.length - 1;
                if (isLast ? PARTS.stream().noneMatch(p -> p.startsWith(part)) : !PARTS.contains(part)) {
                    return i;
                }
            }
        }
        return text.length();
    }

    int work() {
        String[] parts = text.split(";", -1);
        for (String part : parts) {
            if (!PARTS.contains(part)) {
                throw new IllegalArgumentException();
            }
        }
        save(state());
        text = "";
        stop = null;
        for (int i = 0; i < parts.length; i++) {
            try {
                doPart(parts[i]);
            } catch (RuntimeException refused) {
                stop = i;
                return i;
            }
        }
        return parts.length;
    }

    boolean hasStopped() {
        return stop != null;
    }

    int stoppedPart() {
        if (stop == null) {
            throw new IllegalStateException();
        }
        return stop;
    }

    int undo() {
        if (saved.isEmpty()) {
            throw new IllegalStateException();
        }
        set(saved.remove(saved.size() - 1));
        return saved.size();
    }

    int keep() {
        snapshot = state();
        return cars.size();
    }

    int restore() {
        if (snapshot == null) {
            throw new IllegalStateException();
        }
        save(state());
        set(snapshot);
        return cars.size();
    }

    int savedStates() {
        return saved.size();
    }

    int cars() {
        return cars.size();
    }

    int walls() {
        return walls.size();
    }

    private Car car(int car) {
        if (car < 0 || car >= cars.size()) {
            throw new IndexOutOfBoundsException();
        }
        return cars.get(car);
    }

    int laneOf(int car) {
        return car(car).lane;
    }

    int placeOf(int car) {
        car(car);
        return places.get(car);
    }

    int lengthOf(int car) {
        return car(car).length;
    }

    int carOn(int cell) {
        if (cell < 0 || cell > 24) {
            throw new IndexOutOfBoundsException();
        }
        for (int car = 0; car < cars.size(); car++) {
            if (cells(cars.get(car), places.get(car)).contains(cell)) {
                return car;
            }
        }
        return -1;
    }

    boolean isWall(int cell) {
        if (cell < 0 || cell > 24) {
            throw new IndexOutOfBoundsException();
        }
        return walls.contains(cell);
    }

    int freeCells() {
        return 25 - taken(cars, places, walls).size();
    }

    boolean isOut() {
        return isRedOut(cars, places);
    }

    int room(int car, boolean isForwards) {
        car(car);
        return (int) slides(cars, places, walls).keySet().stream()
                .filter(s -> s.car == car && s.by > 0 == isForwards).count();
    }

    int possibleSlides() {
        return slides(cars, places, walls).size();
    }

    int logged() {
        return log.size();
    }

    private Slide loggedSlide(int slide) {
        if (slide < 0 || slide >= log.size()) {
            throw new IndexOutOfBoundsException();
        }
        return log.get(slide);
    }

    int carOfSlide(int slide) {
        return loggedSlide(slide).car;
    }

    int changeBySlide(int slide) {
        return loggedSlide(slide).by;
    }

    int stepsOf(int car) {
        car(car);
        return log.stream().filter(s -> s.car == car).mapToInt(s -> Math.abs(s.by)).sum();
    }

    int fuel() {
        return log.stream().mapToInt(s -> Math.abs(s.by) * cars.get(s.car).length).sum();
    }

    int fewestSlides() {
        return fewest(cars, places, walls);
    }

    int fewestSteps() {
        return cheapest(false);
    }

    int leastFuel() {
        return cheapest(true);
    }

    int nextCar() {
        return next().car;
    }

    int nextChange() {
        return next().by;
    }

    int reachable() {
        return distances(cars, places, walls).size();
    }

    int reachableOut() {
        return (int) distances(cars, places, walls).keySet().stream().filter(p -> isRedOut(cars, p)).count();
    }

    int farthest() {
        return distances(cars, places, walls).values().stream().mapToInt(d -> d).max().orElse(-1);
    }

    int arrangements() {
        return countAll(new ArrayList<>());
    }

    private int countAll(List<Integer> begun) {
        List<Car> those = cars.subList(0, begun.size());
        int cells = walls.size();
        for (Car car : those) {
            cells += car.length;
        }
        if (taken(those, begun, walls).size() < cells) {
            return 0;
        }
        if (begun.size() == cars.size()) {
            return 1;
        }
        int all = 0;
        for (int place = 0; place + cars.get(begun.size()).length <= 5; place++) {
            begun.add(place);
            all += countAll(begun);
            begun.remove(begun.size() - 1);
        }
        return all;
    }

    int fewestBehind(int car, int by) {
        return fewest(cars, behind(car, by), walls);
    }

    int fewestWithoutLast() {
        int left = cars.size() - 1;
        if (left < 1) {
            throw new IllegalStateException();
        }
        return fewest(cars.subList(0, left), new ArrayList<>(places.subList(0, left)), walls);
    }

    int fewestWithWall(int cell) {
        if (carOn(cell) >= 0 || isWall(cell)) {
            throw new IllegalStateException();
        }
        Set<Integer> more = new TreeSet<>(walls);
        more.add(cell);
        return fewest(cars, places, more);
    }

    double reachedShare() {
        return (double) reachable() / arrangements();
    }

    long digest() {
        List<Long> values = new ArrayList<>();
        int fewest = fewestSlides();
        int fuel = leastFuel();
        long[] counts = {cars(), walls(), freeCells(), isOut() ? 1 : 0, possibleSlides(), logged(), fuel(), fuel(),
            fewest, fewest, fewestSteps(), fuel, fuel, reachable(), reachableOut(), farthest(),
            arrangements(), savedStates()};
        for (long count : counts) {
            values.add(count);
        }
        for (int cell = 0; cell < 25; cell++) {
            values.add((long) carOn(cell));
            values.add(isWall(cell) ? 1L : 0L);
        }
        for (int car = 0; car < cars.size(); car++) {
            long[] looks = {laneOf(car), placeOf(car), lengthOf(car), stepsOf(car), room(car, true), room(car, false)};
            for (long look : looks) {
                values.add(look);
            }
        }
        for (Slide slide : log) {
            values.add((long) slide.car);
            values.add((long) slide.by);
        }
        values.add(stop == null ? 0L : 1L);
        if (stop != null) {
            values.add((long) stop);
        }
        values.add(Double.doubleToLongBits(reachedShare()));
        values.add((long) text.length());
        text.chars().forEach(c -> values.add((long) c));
        long hash = 4507;
        for (long value : values) {
            hash = 31 * hash + value;
        }
        return hash;
    }
}
