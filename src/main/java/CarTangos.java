/**
 * A car park tango: a park of 5 by 5 cells with walls and cars that slide in their lanes, until the
 * red car is out. What each public call promises stands in shared/DOC.md; the part of Java that
 * this file keeps to stands in shared/LANGUAGE.md.
 */
public final class CarTangos {
    private static final int SIDE = 5;
    private static final int CELLS = 25;
    private static final int LANES = 10;
    /** Sets of cells are bits, the cell 0 the lowest one. */
    private static final int FIRST_COLUMN = 0x108421;
    private static final int MOST_CARS = 6;
    private static final int MOST_WALLS = 4;
    private static final int SHORTEST = 2;
    private static final int LONGEST = 3;
    private static final int FARTHEST_SLIDE = 3;
    private static final int MOST_LOGGED = 60;
    private static final int MOST_SAVED = 5;
    private static final int MOST_TEXT = 60;
    private static final int LEAST_CODE = 33;
    private static final int GREATEST_CODE = 126;

    private static final int NO_TROUBLE = 0;
    private static final int NO_SUCH_THING = 1;
    private static final int BAD_ARGUMENT = 2;
    private static final int BAD_STATE = 3;

    private final Park now;
    private final Park kept;
    private final Park[] saved;
    private final Explorer explorer;
    private final WorksText text;
    private int savedCount;
    private boolean hasKept;

    public CarTangos() {
        now = new Park();
        kept = new Park();
        saved = new Park[MOST_SAVED];
        for (int i = 0; i < MOST_SAVED; i++) {
            saved[i] = new Park();
        }
        explorer = new Explorer();
        text = new WorksText();
        savedCount = 0;
        hasKept = false;
    }

    // ---- the park

    public int addCar(int lane, int place, int length)
            throws IndexOutOfBoundsException, IllegalArgumentException, IllegalStateException {
        refuse(now.troubleOfEntering(lane, place, length));
        save();
        return now.enter(lane, place, length);
    }

    public int dropLast() throws IllegalStateException {
        if (now.cars == 0) {
            throw new IllegalStateException("there is no car");
        }
        save();
        return now.leave();
    }

    public boolean toggleWall(int cell) throws IndexOutOfBoundsException, IllegalStateException {
        refuse(now.troubleOfWall(cell));
        save();
        return now.turnWall(cell);
    }

    // ---- slides

    public int slide(int car, int by)
            throws IndexOutOfBoundsException, IllegalArgumentException, IllegalStateException {
        refuse(now.troubleOfSliding(car, by));
        if (now.logged >= MOST_LOGGED) {
            throw new IllegalStateException("the log is full");
        }
        save();
        return now.makeSlide(car, by);
    }

    public int takeBack() throws IllegalStateException {
        if (now.logged == 0) {
            throw new IllegalStateException("the log is empty");
        }
        save();
        return now.unmakeSlide();
    }

    public int rewind() {
        save();
        int taken = 0;
        while (taken < MOST_LOGGED && now.logged > 0) {
            now.unmakeSlide();
            taken++;
        }
        return taken;
    }

    public int driveOut() throws IllegalStateException {
        int slides = slidesToDriveOut();
        if (slides < 0) {
            throw new IllegalStateException("there is no plan that the log has room for");
        }
        save();
        makePlan(slides);
        return slides;
    }

    // ---- texts

    public int append(int code) throws IllegalArgumentException, IllegalStateException {
        if (code < LEAST_CODE || code > GREATEST_CODE) {
            throw new IllegalArgumentException("no such character code");
        }
        if (text.length >= MOST_TEXT) {
            throw new IllegalStateException("the buffer is full");
        }
        return text.add(code);
    }

    public int clearBuffer() {
        return text.clear();
    }

    public int firstError() {
        return text.errorAt();
    }

    public int work() throws IllegalArgumentException {
        if (!text.isComplete()) {
            throw new IllegalArgumentException("the buffer is not complete works");
        }
        save();
        int done = 0;
        int at = 0;
        boolean stops = false;
        for (int part = 0; part < MOST_TEXT && at < text.length && !stops; part++) {
            if (tryPart(at)) {
                done++;
                at = text.nextPart(at);
            } else {
                stops = true;
            }
        }
        now.hasStop = stops;
        now.stop = stops ? done : 0;
        text.clear();
        return done;
    }

    public boolean hasStopped() {
        return now.hasStop;
    }

    public int stoppedPart() throws IllegalStateException {
        if (!now.hasStop) {
            throw new IllegalStateException("the latest work did not stop");
        }
        return now.stop;
    }

    // ---- undo, the snapshot

    public int undo() throws IllegalStateException {
        if (savedCount <= 0 || savedCount > MOST_SAVED) {
            throw new IllegalStateException("there is no saved state");
        }
        savedCount--;
        copy(saved[savedCount], now);
        return savedCount;
    }

    public int keep() {
        copy(now, kept);
        hasKept = true;
        return now.cars;
    }

    public int restore() throws IllegalStateException {
        if (!hasKept) {
            throw new IllegalStateException("there is no snapshot");
        }
        save();
        copy(kept, now);
        return now.cars;
    }

    public int savedStates() {
        return savedCount;
    }

    // ---- looks at the park; nothing is changed

    public int cars() {
        return now.cars;
    }

    public int walls() {
        return Integer.bitCount(now.walls);
    }

    public int laneOf(int car) throws IndexOutOfBoundsException {
        if (!now.hasCar(car)) {
            throw new IndexOutOfBoundsException("there is no such car");
        }
        return now.lanes[car];
    }

    public int placeOf(int car) throws IndexOutOfBoundsException {
        if (!now.hasCar(car)) {
            throw new IndexOutOfBoundsException("there is no such car");
        }
        return now.places[car];
    }

    public int lengthOf(int car) throws IndexOutOfBoundsException {
        if (!now.hasCar(car)) {
            throw new IndexOutOfBoundsException("there is no such car");
        }
        return now.lengths[car];
    }

    public int carOn(int cell) throws IndexOutOfBoundsException {
        if (!isCell(cell)) {
            throw new IndexOutOfBoundsException("there is no such cell");
        }
        return now.carAt(cell);
    }

    public boolean isWall(int cell) throws IndexOutOfBoundsException {
        if (!isCell(cell)) {
            throw new IndexOutOfBoundsException("there is no such cell");
        }
        return now.hasWallAt(cell);
    }

    public int freeCells() {
        return CELLS - Integer.bitCount(now.takenCells());
    }

    public boolean isOut() {
        return now.isRedOut();
    }

    public int room(int car, boolean isForwards) throws IndexOutOfBoundsException {
        if (!now.hasCar(car)) {
            throw new IndexOutOfBoundsException("there is no such car");
        }
        return now.roomOf(car, isForwards ? 1 : -1);
    }

    public int possibleSlides() {
        int slides = 0;
        for (int car = 0; car < now.cars; car++) {
            slides += now.roomOf(car, 1) + now.roomOf(car, -1);
        }
        return slides;
    }

    // ---- looks at the log

    public int logged() {
        return now.logged;
    }

    public int carOfSlide(int slide) throws IndexOutOfBoundsException {
        if (!now.hasSlide(slide)) {
            throw new IndexOutOfBoundsException("there is no such slide");
        }
        return now.loggedCars[slide];
    }

    public int changeBySlide(int slide) throws IndexOutOfBoundsException {
        if (!now.hasSlide(slide)) {
            throw new IndexOutOfBoundsException("there is no such slide");
        }
        return now.loggedChanges[slide];
    }

    public int stepsOf(int car) throws IndexOutOfBoundsException {
        if (!now.hasCar(car)) {
            throw new IndexOutOfBoundsException("there is no such car");
        }
        return now.loggedSteps(car);
    }

    public int fuel() {
        return now.fuelSlideBySlide();
    }

    public int fuelByCars() {
        return now.fuelCarByCar();
    }

    // ---- plans

    public int fewestSlides() {
        exploreNow();
        return explorer.slidesFromStart();
    }

    public int fewestSlidesFromEnds() {
        exploreNow();
        return explorer.slidesFromEnds();
    }

    public int fewestSteps() {
        exploreNow();
        return explorer.stepsFromStart();
    }

    public int leastFuel() {
        exploreNow();
        return explorer.fuelByBuckets();
    }

    public int leastFuelByRounds() {
        exploreNow();
        return explorer.fuelByRounds();
    }

    public int nextCar() throws IllegalStateException {
        if (!hasNextSlide()) {
            throw new IllegalStateException("there is no next slide");
        }
        return explorer.nextCarOfPlan;
    }

    public int nextChange() throws IllegalStateException {
        if (!hasNextSlide()) {
            throw new IllegalStateException("there is no next slide");
        }
        return explorer.nextChangeOfPlan;
    }

    // ---- arrangements

    public int reachable() {
        exploreNow();
        explorer.spreadFromStart(FARTHEST_SLIDE);
        return explorer.foundCount;
    }

    public int reachableOut() {
        exploreNow();
        explorer.spreadFromStart(FARTHEST_SLIDE);
        return explorer.foundOut();
    }

    public int farthest() {
        exploreNow();
        explorer.spreadFromStart(FARTHEST_SLIDE);
        return explorer.farthestFound();
    }

    public int arrangements() {
        exploreNow();
        return explorer.allArrangements();
    }

    // ---- what would be; nothing is changed

    public int fewestBehind(int car, int by)
            throws IndexOutOfBoundsException, IllegalArgumentException, IllegalStateException {
        refuse(now.troubleOfSliding(car, by));
        exploreNow();
        explorer.start = explorer.behindSlide(explorer.start, car, by);
        return explorer.slidesFromStart();
    }

    public int fewestWithoutLast() throws IllegalStateException {
        if (now.cars < 2) {
            throw new IllegalStateException("there are fewer than 2 cars");
        }
        explorer.load(now, now.cars - 1, now.walls);
        return explorer.slidesFromStart();
    }

    public int fewestWithWall(int cell) throws IndexOutOfBoundsException, IllegalStateException {
        if (!isCell(cell)) {
            throw new IndexOutOfBoundsException("there is no such cell");
        }
        if ((now.takenCells() & (1 << cell)) != 0) {
            throw new IllegalStateException("a car or a wall is on the cell");
        }
        explorer.load(now, now.cars, now.walls | (1 << cell));
        return explorer.slidesFromStart();
    }

    public double reachedShare() {
        exploreNow();
        explorer.spreadFromStart(FARTHEST_SLIDE);
        return share(explorer.foundCount, explorer.allArrangements());
    }

    public long digest() {
        long hash = hashOfPark(4507L);
        exploreNow();
        hash = hashOfPlans(hash);
        explorer.spreadFromStart(FARTHEST_SLIDE);
        hash = hashOfArrangements(hash);
        hash = mix(hash, savedCount);
        hash = hashOfCells(hash);
        hash = hashOfCars(hash);
        hash = hashOfLog(hash);
        hash = mix(hash, now.hasStop ? 1 : 0);
        if (now.hasStop) {
            hash = mix(hash, now.stop);
        }
        hash = mix(hash, bitsOf(share(explorer.foundCount, explorer.allArrangements())));
        return hashOfText(hash);
    }

    // ---- what the calls share

    private static void refuse(int trouble) {
        if (trouble == NO_SUCH_THING) {
            throw new IndexOutOfBoundsException("there is no such lane, cell or car");
        }
        if (trouble == BAD_ARGUMENT) {
            throw new IllegalArgumentException("an argument is out of range");
        }
        if (trouble == BAD_STATE) {
            throw new IllegalStateException("the park does not allow it");
        }
    }

    private static void copy(Park from, Park to) {
        if (from != null && to != null) {
            to.become(from);
        }
    }

    private void save() {
        if (savedCount >= MOST_SAVED) {
            dropOldestSaved();
        }
        copy(now, saved[savedCount]);
        savedCount++;
    }

    /** The oldest state's object moves behind the others, so that no call makes a new one. */
    private void dropOldestSaved() {
        Park oldest = saved[0];
        for (int i = 1; i < MOST_SAVED; i++) {
            saved[i - 1] = saved[i];
        }
        saved[MOST_SAVED - 1] = oldest;
        savedCount = MOST_SAVED - 1;
    }

    private void exploreNow() {
        explorer.load(now, now.cars, now.walls);
    }

    private boolean hasNextSlide() {
        exploreNow();
        explorer.slidesFromEnds();
        return explorer.findNextSlide(explorer.start);
    }

    /** The slides of the plan that driveOut makes; -1 if it can't make one. */
    private int slidesToDriveOut() {
        exploreNow();
        int slides = explorer.slidesFromEnds();
        return now.logged + slides > MOST_LOGGED ? -1 : slides;
    }

    /** Needs the explorer as slidesToDriveOut() left it; false, with nothing changed, if that told -1. */
    private boolean makePlan(int slides) {
        int arrangement = explorer.start;
        for (int i = 0; i < slides && explorer.findNextSlide(arrangement); i++) {
            int car = explorer.nextCarOfPlan;
            int by = explorer.nextChangeOfPlan;
            now.makeSlide(car, by);
            arrangement = explorer.behindSlide(arrangement, car, by);
        }
        return slides >= 0;
    }

    /** Does the part of the text that begins here; false, with nothing changed, if its method would throw. */
    private boolean tryPart(int at) {
        switch (text.codeAt(at)) {
            case 'h':
                return tryEntering(text.digitAt(at + 1), text.digitAt(at + 3), text.digitAt(at + 5));
            case 'v':
                return tryEntering(SIDE + text.digitAt(at + 1), text.digitAt(at + 3), text.digitAt(at + 5));
            case 'w':
                return tryWall(text.cellAt(at + 1));
            case 'b':
                return tryTakingBack();
            case 'd':
                return makePlan(slidesToDriveOut());
            default:
                return trySliding(text.digitAt(at), text.signAt(at + 1) * text.digitAt(at + 2));
        }
    }

    private boolean tryEntering(int lane, int place, int length) {
        boolean isPossible = now.troubleOfEntering(lane, place, length) == NO_TROUBLE;
        if (isPossible) {
            now.enter(lane, place, length);
        }
        return isPossible;
    }

    private boolean tryWall(int cell) {
        boolean isPossible = now.troubleOfWall(cell) == NO_TROUBLE;
        if (isPossible) {
            now.turnWall(cell);
        }
        return isPossible;
    }

    private boolean trySliding(int car, int by) {
        boolean isPossible = now.troubleOfSliding(car, by) == NO_TROUBLE && now.logged < MOST_LOGGED;
        if (isPossible) {
            now.makeSlide(car, by);
        }
        return isPossible;
    }

    private boolean tryTakingBack() {
        boolean isPossible = now.logged > 0;
        if (isPossible) {
            now.unmakeSlide();
        }
        return isPossible;
    }

    private static boolean isCell(int cell) {
        return cell >= 0 && cell < CELLS;
    }

    private static int bitOf(int lane, int place) {
        return lane < SIDE ? 1 << (SIDE * lane + place) : 1 << (SIDE * place + lane - SIDE);
    }

    private static int cellsOf(int lane, int place, int length) {
        if (lane < SIDE) {
            return ((1 << length) - 1) << (SIDE * lane + place);
        }
        return (FIRST_COLUMN & ((1 << (SIDE * length)) - 1)) << (SIDE * place + lane - SIDE);
    }

    private static double share(int part, int all) {
        return all > 0 ? (double) part / (double) all : 0.0;
    }

    // ---- the hash

    private static long mix(long hash, long value) {
        return 31L * hash + value;
    }

    /** Double's own functions are not in the language; so this reads a share above 0 and up to 1 alone. */
    private static long bitsOf(double share) {
        double rest = share;
        long exponent = 1023L;
        while (rest < 1.0 && exponent > 1L) {
            rest = rest * 2.0;
            exponent--;
        }
        long fraction = (long) ((rest - 1.0) * 4503599627370496.0);
        return (exponent << 52) | fraction;
    }

    private long hashOfPark(long before) {
        long hash = mix(before, now.cars);
        hash = mix(hash, walls());
        hash = mix(hash, freeCells());
        hash = mix(hash, isOut() ? 1 : 0);
        hash = mix(hash, possibleSlides());
        hash = mix(hash, now.logged);
        hash = mix(hash, now.fuelSlideBySlide());
        return mix(hash, now.fuelCarByCar());
    }

    private long hashOfPlans(long before) {
        long hash = mix(before, explorer.slidesFromStart());
        hash = mix(hash, explorer.slidesFromEnds());
        hash = mix(hash, explorer.stepsFromStart());
        hash = mix(hash, explorer.fuelByBuckets());
        return mix(hash, explorer.fuelByRounds());
    }

    /** Needs the explorer behind spreadFromStart(FARTHEST_SLIDE). */
    private long hashOfArrangements(long before) {
        long hash = mix(before, explorer.foundCount);
        hash = mix(hash, explorer.foundOut());
        hash = mix(hash, explorer.farthestFound());
        return mix(hash, explorer.allArrangements());
    }

    private long hashOfCells(long before) {
        long hash = before;
        for (int cell = 0; cell < CELLS; cell++) {
            hash = mix(hash, now.carAt(cell));
            hash = mix(hash, now.hasWallAt(cell) ? 1 : 0);
        }
        return hash;
    }

    private long hashOfCars(long before) {
        long hash = before;
        for (int car = 0; car < now.cars && car < MOST_CARS; car++) {
            hash = mix(hash, now.lanes[car]);
            hash = mix(hash, now.places[car]);
            hash = mix(hash, now.lengths[car]);
            hash = mix(hash, now.loggedSteps(car));
            hash = mix(hash, now.roomOf(car, 1));
            hash = mix(hash, now.roomOf(car, -1));
        }
        return hash;
    }

    private long hashOfLog(long before) {
        long hash = before;
        for (int slide = 0; slide < now.logged && slide < MOST_LOGGED; slide++) {
            hash = mix(hash, now.loggedCars[slide]);
            hash = mix(hash, now.loggedChanges[slide]);
        }
        return hash;
    }

    private long hashOfText(long before) {
        long hash = mix(before, text.length);
        for (int i = 0; i < text.length; i++) {
            hash = mix(hash, text.codeAt(i));
        }
        return hash;
    }

    /** What undo and the snapshot hold: walls, cars, the log and the latest stop. */
    private static final class Park {
        final int[] lanes = new int[MOST_CARS];
        final int[] places = new int[MOST_CARS];
        final int[] lengths = new int[MOST_CARS];
        final int[] loggedCars = new int[MOST_LOGGED];
        final int[] loggedChanges = new int[MOST_LOGGED];
        int cars;
        int walls;
        int logged;
        boolean hasStop;
        int stop;

        void become(Park other) {
            System.arraycopy(other.lanes, 0, lanes, 0, MOST_CARS);
            System.arraycopy(other.places, 0, places, 0, MOST_CARS);
            System.arraycopy(other.lengths, 0, lengths, 0, MOST_CARS);
            System.arraycopy(other.loggedCars, 0, loggedCars, 0, MOST_LOGGED);
            System.arraycopy(other.loggedChanges, 0, loggedChanges, 0, MOST_LOGGED);
            cars = other.cars;
            walls = other.walls;
            logged = other.logged;
            hasStop = other.hasStop;
            stop = other.stop;
        }

        boolean hasCar(int car) {
            return car >= 0 && car < cars && car < MOST_CARS;
        }

        boolean hasSlide(int slide) {
            return slide >= 0 && slide < logged && slide < MOST_LOGGED;
        }

        boolean hasWallAt(int cell) {
            return (walls & (1 << cell)) != 0;
        }

        int carAt(int cell) {
            for (int car = 0; car < cars && car < MOST_CARS; car++) {
                if ((cellsOf(lanes[car], places[car], lengths[car]) & (1 << cell)) != 0) {
                    return car;
                }
            }
            return -1;
        }

        int takenCells() {
            int taken = walls;
            for (int car = 0; car < cars && car < MOST_CARS; car++) {
                taken |= cellsOf(lanes[car], places[car], lengths[car]);
            }
            return taken;
        }

        boolean isRedOut() {
            return cars > 0 && places[0] + lengths[0] == SIDE;
        }

        int roomOf(int car, int sign) {
            if (!hasCar(car)) {
                return 0;
            }
            int taken = takenCells();
            int ahead = sign > 0 ? places[car] + lengths[car] : places[car] - 1;
            int room = 0;
            while (room < FARTHEST_SLIDE && ahead >= 0 && ahead < SIDE
                    && (taken & bitOf(lanes[car], ahead)) == 0) {
                room++;
                ahead += sign;
            }
            return room;
        }

        int troubleOfEntering(int lane, int place, int length) {
            if (lane < 0 || lane >= LANES) {
                return NO_SUCH_THING;
            }
            if (length < SHORTEST || length > LONGEST || place < 0 || place > SIDE - length) {
                return BAD_ARGUMENT;
            }
            boolean isRedInColumn = cars == 0 && lane >= SIDE;
            boolean isFree = (takenCells() & cellsOf(lane, place, length)) == 0;
            return cars >= MOST_CARS || !isFree || isRedInColumn ? BAD_STATE : NO_TROUBLE;
        }

        int enter(int lane, int place, int length) {
            int car = cars;
            if (car >= 0 && car < MOST_CARS) {
                lanes[car] = lane;
                places[car] = place;
                lengths[car] = length;
                cars++;
            }
            logged = 0;
            return car;
        }

        int leave() {
            cars--;
            logged = 0;
            return cars;
        }

        int troubleOfWall(int cell) {
            if (!isCell(cell)) {
                return NO_SUCH_THING;
            }
            boolean isOneTooMany = !hasWallAt(cell) && Integer.bitCount(walls) >= MOST_WALLS;
            return carAt(cell) >= 0 || isOneTooMany ? BAD_STATE : NO_TROUBLE;
        }

        boolean turnWall(int cell) {
            walls ^= 1 << cell;
            logged = 0;
            return hasWallAt(cell);
        }

        /** Does not ask whether the log has room. */
        int troubleOfSliding(int car, int by) {
            if (!hasCar(car)) {
                return NO_SUCH_THING;
            }
            if (by < -FARTHEST_SLIDE || by > FARTHEST_SLIDE || by == 0) {
                return BAD_ARGUMENT;
            }
            int room = by > 0 ? roomOf(car, 1) : roomOf(car, -1);
            return Math.abs(by) > room ? BAD_STATE : NO_TROUBLE;
        }

        int makeSlide(int car, int by) {
            if (!hasCar(car) || logged < 0 || logged >= MOST_LOGGED) {
                return -1;
            }
            places[car] += by;
            loggedCars[logged] = car;
            loggedChanges[logged] = by;
            logged++;
            return places[car];
        }

        int unmakeSlide() {
            if (!hasSlide(logged - 1)) {
                return -1;
            }
            logged--;
            int car = loggedCars[logged];
            if (hasCar(car)) {
                places[car] -= loggedChanges[logged];
            }
            return car;
        }

        int loggedSteps(int car) {
            int steps = 0;
            for (int i = 0; i < logged && i < MOST_LOGGED; i++) {
                if (loggedCars[i] == car) {
                    steps += Math.abs(loggedChanges[i]);
                }
            }
            return steps;
        }

        int fuelSlideBySlide() {
            int fuel = 0;
            for (int i = 0; i < logged && i < MOST_LOGGED; i++) {
                int car = loggedCars[i];
                fuel += hasCar(car) ? Math.abs(loggedChanges[i]) * lengths[car] : 0;
            }
            return fuel;
        }

        int fuelCarByCar() {
            int fuel = 0;
            for (int car = 0; car < cars && car < MOST_CARS; car++) {
                fuel += loggedSteps(car) * lengths[car];
            }
            return fuel;
        }
    }

    /** The buffer, read by a machine whose states tell what may come next. */
    private static final class WorksText {
        static final int PART = 0;
        static final int LANE = 1;
        static final int DOT = 2;
        static final int PLACE = 3;
        static final int STAR = 4;
        static final int LENGTH = 5;
        static final int SIGN = 6;
        static final int STEPS = 7;
        static final int CELL = 8;
        static final int CELL_BEHIND_1 = 9;
        static final int CELL_BEHIND_2 = 10;
        static final int END = 11;
        static final int ERROR = 12;

        final int[] codes = new int[MOST_TEXT];
        int length;

        int add(int code) {
            if (length >= 0 && length < MOST_TEXT) {
                codes[length] = code;
                length++;
            }
            return length;
        }

        int clear() {
            int before = length;
            length = 0;
            return before;
        }

        /** The code; 0 outside the text. */
        int codeAt(int index) {
            return index >= 0 && index < length && index < MOST_TEXT ? codes[index] : 0;
        }

        int digitAt(int index) {
            return codeAt(index) - '0';
        }

        int signAt(int index) {
            return codeAt(index) == '-' ? -1 : 1;
        }

        int cellAt(int index) {
            boolean hasTwoDigits = isAmong(codeAt(index + 1), '0', '9');
            return hasTwoDigits ? 10 * digitAt(index) + digitAt(index + 1) : digitAt(index);
        }

        int nextPart(int from) {
            int at = from;
            while (at < length && codeAt(at) != ';') {
                at++;
            }
            return at + 1;
        }

        int errorAt() {
            int state = PART;
            for (int i = 0; i < length; i++) {
                state = behind(state, codeAt(i));
                if (state == ERROR) {
                    return i;
                }
            }
            return length;
        }

        boolean isComplete() {
            int state = PART;
            for (int i = 0; i < length; i++) {
                state = behind(state, codeAt(i));
            }
            return state == END || state == CELL_BEHIND_1 || state == CELL_BEHIND_2;
        }

        static boolean isAmong(int code, int least, int greatest) {
            return code >= least && code <= greatest;
        }

        static int behind(int state, int code) {
            switch (state) {
                case PART:
                    return behindBegin(code);
                case LANE:
                    return isAmong(code, '0', '4') ? DOT : ERROR;
                case DOT:
                    return code == '.' ? PLACE : ERROR;
                case PLACE:
                    return isAmong(code, '0', '3') ? STAR : ERROR;
                case STAR:
                    return code == '*' ? LENGTH : ERROR;
                case LENGTH:
                    return isAmong(code, '2', '3') ? END : ERROR;
                case SIGN:
                    return code == '+' || code == '-' ? STEPS : ERROR;
                case STEPS:
                    return isAmong(code, '1', '3') ? END : ERROR;
                case CELL:
                    return behindWall(code);
                case CELL_BEHIND_1:
                    return isAmong(code, '0', '9') ? END : behindEnd(code);
                case CELL_BEHIND_2:
                    return isAmong(code, '0', '4') ? END : behindEnd(code);
                case END:
                    return behindEnd(code);
                default:
                    return ERROR;
            }
        }

        static int behindBegin(int code) {
            if (code == 'h' || code == 'v') {
                return LANE;
            }
            if (code == 'w') {
                return CELL;
            }
            if (code == 'b' || code == 'd') {
                return END;
            }
            return isAmong(code, '0', '5') ? SIGN : ERROR;
        }

        static int behindWall(int code) {
            if (code == '1') {
                return CELL_BEHIND_1;
            }
            if (code == '2') {
                return CELL_BEHIND_2;
            }
            return isAmong(code, '0', '9') ? END : ERROR;
        }

        static int behindEnd(int code) {
            return code == ';' ? PART : ERROR;
        }
    }

    /**
     * Searches over arrangements. An arrangement is a number that has two bits for each car's place,
     * the lowest two for the red car's.
     */
    private static final class Explorer {
        static final int MOST_ARRANGEMENTS = 4096;
        static final int PLACES = 4;
        static final int NONE = -1;
        static final int BUCKETS = 4;
        static final int MOST_FUEL = LONGEST * MOST_ARRANGEMENTS;

        final int[] lengths = new int[MOST_CARS];
        /** The cells that walls and cars take in an arrangement; NONE if two would share one. */
        final int[] taken = new int[MOST_ARRANGEMENTS];
        /** Slides, steps or fuel from where a search began; NONE if it did not come there. */
        final int[] costs = new int[MOST_ARRANGEMENTS];
        /** What a spreading search found, the nearest ones ahead. */
        final int[] found = new int[MOST_ARRANGEMENTS];
        final int[] buckets = new int[BUCKETS * MOST_ARRANGEMENTS];
        final int[] filled = new int[BUCKETS];
        int cars;
        int size;
        int start;
        int foundCount;
        int nextCarOfPlan;
        int nextChangeOfPlan;

        void load(Park park, int count, int walls) {
            cars = Math.max(0, Math.min(count, MOST_CARS));
            size = 1;
            start = 0;
            taken[0] = walls;
            for (int car = 0; car < cars && car < MOST_CARS; car++) {
                lengths[car] = park.lengths[car];
                start += park.places[car] << (2 * car);
                addToTable(park.lanes[car], park.lengths[car]);
            }
        }

        /** Goes through the places from the greatest one, as the place 0 overwrites what the others need. */
        void addToTable(int lane, int length) {
            int before = size;
            for (int place = PLACES - 1; place >= 0; place--) {
                int cells = place + length <= SIDE ? cellsOf(lane, place, length) : NONE;
                for (int i = 0; i < before && before * place + i < MOST_ARRANGEMENTS; i++) {
                    taken[before * place + i] = together(taken[i], cells);
                }
            }
            size = Math.min(before * PLACES, MOST_ARRANGEMENTS);
        }

        static int together(int cells, int others) {
            boolean isPossible = cells != NONE && others != NONE && (cells & others) == 0;
            return isPossible ? cells | others : NONE;
        }

        boolean exists(int arrangement) {
            return arrangement >= 0 && arrangement < size && taken[arrangement] != NONE;
        }

        boolean isOutIn(int arrangement) {
            return cars > 0 && arrangement % PLACES + lengths[0] == SIDE;
        }

        int allArrangements() {
            int all = 0;
            for (int i = 0; i < size; i++) {
                if (exists(i)) {
                    all++;
                }
            }
            return all;
        }

        /** The arrangement behind one step of a car, forwards (1) or back (-1); NONE if it can't make it. */
        int behindStep(int arrangement, int car, int sign) {
            int place = ((arrangement >> (2 * car)) & 3) + sign;
            int next = arrangement + sign * (1 << (2 * car));
            if (place < 0 || place >= PLACES || next < 0 || next >= size) {
                return NONE;
            }
            return taken[next] == NONE ? NONE : next;
        }

        int behindSlide(int arrangement, int car, int by) {
            int sign = by > 0 ? 1 : -1;
            int at = arrangement;
            for (int left = Math.abs(by); left > 0 && at != NONE; left--) {
                at = behindStep(at, car, sign);
            }
            return at;
        }

        int costOf(int arrangement) {
            return exists(arrangement) ? costs[arrangement] : NONE;
        }

        void forget() {
            for (int i = 0; i < size && i < MOST_ARRANGEMENTS; i++) {
                costs[i] = NONE;
            }
            foundCount = 0;
        }

        void find(int arrangement, int cost) {
            if (arrangement < 0 || arrangement >= size || taken[arrangement] == NONE) {
                return;
            }
            if (costs[arrangement] == NONE && foundCount >= 0 && foundCount < MOST_ARRANGEMENTS) {
                costs[arrangement] = cost;
                found[foundCount] = arrangement;
                foundCount++;
            }
        }

        /** From what is found already, by slides of up to so many steps, the nearest arrangements first. */
        void spread(int mostSteps) {
            for (int i = 0; i < foundCount && i < MOST_ARRANGEMENTS; i++) {
                int cost = costOf(found[i]) + 1;
                for (int car = 0; car < cars; car++) {
                    spreadAlong(found[i], car, 1, mostSteps, cost);
                    spreadAlong(found[i], car, -1, mostSteps, cost);
                }
            }
        }

        void spreadAlong(int from, int car, int sign, int mostSteps, int cost) {
            int at = behindStep(from, car, sign);
            for (int steps = 1; steps <= mostSteps && at != NONE; steps++) {
                find(at, cost);
                at = behindStep(at, car, sign);
            }
        }

        void spreadFromStart(int mostSteps) {
            forget();
            find(start, 0);
            spread(mostSteps);
        }

        int slidesFromStart() {
            spreadFromStart(FARTHEST_SLIDE);
            return leastCostOut();
        }

        /** A slide of some steps takes as many steps as slides of one step each. */
        int stepsFromStart() {
            spreadFromStart(1);
            return leastCostOut();
        }

        /** Slides lead back as they lead forth, so this tells each arrangement how far the nearest end is. */
        int slidesFromEnds() {
            forget();
            for (int i = 0; i < size; i++) {
                if (isOutIn(i)) {
                    find(i, 0);
                }
            }
            spread(FARTHEST_SLIDE);
            return costOf(start);
        }

        int leastCostOut() {
            int least = NONE;
            for (int i = 0; i < size; i++) {
                int cost = isOutIn(i) ? costOf(i) : NONE;
                if (cost != NONE && (least == NONE || cost < least)) {
                    least = cost;
                }
            }
            return least;
        }

        int foundOut() {
            int out = 0;
            for (int i = 0; i < foundCount && i < MOST_ARRANGEMENTS; i++) {
                if (isOutIn(found[i])) {
                    out++;
                }
            }
            return out;
        }

        int farthestFound() {
            int last = foundCount - 1;
            return last >= 0 && last < MOST_ARRANGEMENTS ? costOf(found[last]) : 0;
        }

        /** Tells the next slide of the first plan, behind slidesFromEnds(); false if there is none. */
        boolean findNextSlide(int arrangement) {
            int left = costOf(arrangement);
            for (int car = 0; car < cars && left > 0; car++) {
                for (int by = -FARTHEST_SLIDE; by <= FARTHEST_SLIDE; by++) {
                    if (by != 0 && costOf(behindSlide(arrangement, car, by)) == left - 1) {
                        nextCarOfPlan = car;
                        nextChangeOfPlan = by;
                        return true;
                    }
                }
            }
            return false;
        }

        /**
         * A step costs 2 or 3, so four buckets in turn are enough; one step at a time costs as much
         * fuel as the slides that it makes up.
         */
        int fuelByBuckets() {
            forget();
            for (int i = 0; i < BUCKETS; i++) {
                filled[i] = 0;
            }
            cheapen(start, 0);
            for (int fuel = 0; fuel <= MOST_FUEL && isAnyFilled(); fuel++) {
                if (hasOutFor(fuel)) {
                    return fuel;
                }
                emptyBucket(fuel);
            }
            return NONE;
        }

        boolean isAnyFilled() {
            return filled[0] + filled[1] + filled[2] + filled[3] > 0;
        }

        /** The arrangement in the bucket of this fuel, or NONE if it became cheaper since it came in. */
        int inBucket(int fuel, int index) {
            int at = (fuel & 3) * MOST_ARRANGEMENTS + index;
            int arrangement = at >= 0 && at < BUCKETS * MOST_ARRANGEMENTS ? buckets[at] : NONE;
            return costOf(arrangement) == fuel ? arrangement : NONE;
        }

        boolean hasOutFor(int fuel) {
            for (int i = 0; i < filled[fuel & 3]; i++) {
                int arrangement = inBucket(fuel, i);
                if (arrangement != NONE && isOutIn(arrangement)) {
                    return true;
                }
            }
            return false;
        }

        void emptyBucket(int fuel) {
            int count = filled[fuel & 3];
            for (int i = 0; i < count; i++) {
                int arrangement = inBucket(fuel, i);
                for (int car = 0; car < cars && car < MOST_CARS && arrangement != NONE; car++) {
                    cheapen(behindStep(arrangement, car, 1), fuel + lengths[car]);
                    cheapen(behindStep(arrangement, car, -1), fuel + lengths[car]);
                }
            }
            filled[fuel & 3] = 0;
        }

        /** Puts an arrangement into the bucket of this fuel, if no less leads there already. */
        void cheapen(int arrangement, int fuel) {
            int bucket = fuel & 3;
            if (isCheaper(arrangement, fuel) && filled[bucket] < MOST_ARRANGEMENTS) {
                costs[arrangement] = fuel;
                buckets[bucket * MOST_ARRANGEMENTS + filled[bucket]] = arrangement;
                filled[bucket]++;
            }
        }

        boolean isCheaper(int arrangement, int fuel) {
            return exists(arrangement) && (costs[arrangement] == NONE || fuel < costs[arrangement]);
        }

        int fuelByRounds() {
            forget();
            find(start, 0);
            boolean isAnyCheaper = true;
            for (int round = 0; round <= MOST_ARRANGEMENTS && isAnyCheaper; round++) {
                isAnyCheaper = false;
                for (int i = 0; i < size; i++) {
                    if (costOf(i) != NONE && hasCheapenedAround(i)) {
                        isAnyCheaper = true;
                    }
                }
            }
            return leastCostOut();
        }

        boolean hasCheapenedAround(int arrangement) {
            boolean hasCheapened = false;
            for (int car = 0; car < cars && car < MOST_CARS; car++) {
                int fuel = costOf(arrangement) + lengths[car];
                for (int sign = -1; sign <= 1; sign += 2) {
                    int next = behindStep(arrangement, car, sign);
                    if (isCheaper(next, fuel)) {
                        costs[next] = fuel;
                        hasCheapened = true;
                    }
                }
            }
            return hasCheapened;
        }
    }
}
