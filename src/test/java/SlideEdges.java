import java.util.function.ToIntFunction;

/** The edges that promises 5 to 8 and 30 to 35 name: slides, driving out, and the log. */
final class SlideEdges {
    private SlideEdges() {
    }

    // ---- promise 5: slide

    static void slide() {
        Check.promise(5, "Slides a car. Undoable.");
        Edge.undone("the red one", Parks.of("h2.0*2"), x -> x.slide(0, 3), 3);
        Edge.undone("back", Parks.of("h2.3*2"), x -> x.slide(0, -3), 0);
        Edge.undone("the last one of six, with a log", Edge.busy(Parks.SIX), x -> x.slide(5, -1), 0);
        Edge.undone("the 60th", Edge.logged("h2.0*2", 59), x -> x.slide(0, -1), 0);
        CarTangos x = Parks.of(Parks.ONE_IN_THE_WAY);
        x.slide(1, -1);
        Check.same("it alone has slid", Parks.sight(x), "h2.0*2 v3.0*2||1-1|no stop");
    }

    static void slideAnswers() {
        Check.promise(5, "Returns its place then.");
        CarTangos x = Parks.of("h2.0*2;v4.2*3");
        int[][] slides = {{0, 1}, {0, 1}, {0, -2}, {1, -1}, {1, -1}, {1, 2}, {1, -2}, {0, 2}, {0, -1}};
        int[] dues = {1, 2, 0, 1, 0, 2, 0, 2, 1};
        for (int i = 0; i < slides.length; i++) {
            int place = x.slide(slides[i][0], slides[i][1]);
            Check.same("slide " + i, place + " " + x.placeOf(slides[i][0]), dues[i] + " " + dues[i]);
        }
    }

    static void slideCars() {
        Check.promise(5, "`car`: its number");
        CarTangos x = Parks.of("h2.0*2;h0.0*2;h1.0*2;h3.0*2;h4.0*2;v4.1*2");
        for (int car = 0; car < 5; car++) {
            Check.same("car " + car, x.slide(car, 1) + Parks.carsOf(x).split(" ")[car].substring(2), "1.1*2");
        }
        Check.same("the last one", x.slide(5, -1) + " " + x.carOn(4) + x.carOn(9), "0 55");
    }

    static void slideBy() {
        Check.promise(5, "`by`: -3 to 3, but not 0: the change of its place");
        for (int by = 1; by <= 3; by++) {
            CarTangos x = Parks.of("h2.0*2");
            Check.same("by " + by, x.slide(0, by) + " " + x.changeBySlide(0), by + " " + by);
            Check.same("by " + -by, x.slide(0, -by) + " " + x.changeBySlide(1), "0 " + -by);
        }
        for (int by = 1; by <= 3; by++) {
            Check.same("back by " + by, Parks.of("h2.3*2").slide(0, -by), 3 - by);
            Check.same("down by " + by, Parks.of("h4.0*2;v4.0*2").slide(1, by), by);
            Check.same("up by " + by, Parks.of("h4.0*2;v4.3*2").slide(1, -by), 3 - by);
        }
    }

    static void slideNoSuchCar() {
        Check.promise(5, "there is no such car");
        Edge.noSuchCars(x -> car -> x.slide(car, 1));
        Edge.noSuchCars(x -> car -> x.slide(car, -1));
    }

    static void slideByTooMuch() {
        Check.promise(5, "by is out of range");
        for (int by : Edge.NO_CHANGES) {
            Edge.argument("by " + by, "h2.0*2", x -> x.slide(0, by));
            Edge.argument("by " + by + " from the end", "h2.3*2", x -> x.slide(0, by));
            Edge.argument("by " + by + " in a column", Parks.ONE_IN_THE_WAY, x -> x.slide(1, by));
        }
        for (int by : Edge.FAR_OFF) {
            Edge.argument("by " + by, "h2.1*2", x -> x.slide(0, by));
        }
    }

    static void slideNotPossible() {
        Check.promise(5, "that is not possible");
        for (int by = 1; by <= 3; by++) {
            int steps = by;
            Edge.state("over the left edge", "h2.0*2", x -> x.slide(0, -steps));
            Edge.state("over the right edge", "h2.3*2", x -> x.slide(0, steps));
            Edge.state("over the upper edge", "h4.0*2;v4.0*2", x -> x.slide(1, -steps));
            Edge.state("over the lower edge", "h0.0*2;v4.3*2", x -> x.slide(1, steps));
            Edge.state("against a wall", "h2.0*2;w12", x -> x.slide(0, steps));
            Edge.state("back against a wall", "h2.3*2;w12", x -> x.slide(0, -steps));
            Edge.state("down against a wall", "h4.0*2;v4.0*2;w14", x -> x.slide(1, steps));
            Edge.state("up against a wall", "h4.0*2;v4.3*2;w14", x -> x.slide(1, -steps));
            Edge.state("against a car", "h2.0*2;v2.1*2", x -> x.slide(0, steps));
            Edge.state("back against a car", "h2.3*2;v2.1*2", x -> x.slide(0, -steps));
            Edge.state("against one in its lane", "h2.0*2;h2.2*3", x -> x.slide(0, steps));
        }
        for (int free = 1; free <= 2; free++) {
            int steps = free;
            String wall = "h2.0*2;w" + (12 + free);
            Edge.state("a wall behind free cells", wall, x -> x.slide(0, steps + 1));
            Check.same("up to a wall", Parks.of(wall).slide(0, free), free);
            String car = "h2.0*2;v" + (2 + free) + ".1*2";
            Edge.state("a car behind free cells", car, x -> x.slide(0, steps + 1));
            Check.same("up to a car", Parks.of(car).slide(0, free), free);
            Edge.state("the edge behind free cells", "h2." + (3 - free) + "*2", x -> x.slide(0, steps + 1));
            Check.same("up to the edge", Parks.of("h2." + (3 - free) + "*2").slide(0, free), 3);
            Edge.state("3 long, over the edge", "h2.1*3", x -> x.slide(0, -steps - 1));
        }
    }

    static void slideWithFullLog() {
        Check.promise(5, "the log has 60 slides");
        CarTangos x = Edge.logged("h2.0*2", 59);
        Check.same("the 60th", x.slide(0, -1) + " " + x.logged(), "0 60");
        Check.state("a 61st", () -> x.slide(0, 1));
        Check.same("60 are left", x.logged() + " " + x.placeOf(0), "60 0");
        Edge.refused("IllegalStateException", "a 61st", () -> Edge.logged("h2.0*2", 60), y -> y.slide(0, 1));
        x.takeBack();
        Check.same("the 60th again", x.slide(0, -1) + " " + x.logged(), "0 60");
        x.undo();
        Check.same("the 60th once more", x.slide(0, 1) + " " + x.logged(), "2 60");
        x.rewind();
        Check.same("the first one", x.slide(0, 1) + " " + x.logged(), "1 1");
    }

    static void slideErrorsInOrder() {
        Check.term(5, "If several exceptions apply, the one that is named first in the throws clause is thrown.");
        for (int by : Edge.NO_CHANGES) {
            Edge.index("no such car, and by " + by, "h2.0*2", x -> x.slide(1, by));
            Edge.index("no car, and by " + by, "", x -> x.slide(0, by));
        }
        Edge.refused("IndexOutOfBoundsException", "no such car, and a full log",
                () -> Edge.logged("h2.0*2", 60), x -> x.slide(1, 1));
        Edge.refused("IllegalArgumentException", "by 4, and a full log",
                () -> Edge.logged("h2.0*2", 60), x -> x.slide(0, 4));
        Edge.refused("IllegalArgumentException", "by 0, and a full log",
                () -> Edge.logged("h2.0*2", 60), x -> x.slide(0, 0));
    }

    // ---- promise 6: takeBack

    static void takeBack() {
        Check.promise(6, "Takes the latest slide of the log back, and out of the log. Undoable.");
        Edge.undone("the only one", Edge.logged("h2.0*2", 1), CarTangos::takeBack, 0);
        Edge.undone("the 60th", Edge.logged("h2.0*2", 60), CarTangos::takeBack, 0);
        CarTangos x = Parks.of("h2.0*2;v4.2*3");
        x.slide(0, 2);
        x.slide(1, -2);
        Edge.undone("one of a column", x, CarTangos::takeBack, 1);
        x.takeBack();
        Check.same("the latest, not the first", Parks.sight(x), "h2.2*2 v4.2*3||0+2|no stop");
        x.takeBack();
        Check.same("then the first", Parks.sight(x), "h2.0*2 v4.2*3|||no stop");
        Check.same("it is not logged itself", x.logged(), 0);
    }

    static void takeBackAnswers() {
        Check.promise(6, "Returns the car.");
        CarTangos x = Parks.of("h2.0*2;h0.0*2;h1.0*2;h3.0*2;h4.0*2;v4.1*2");
        for (int car = 0; car < 6; car++) {
            x.slide(car, car == 5 ? 2 : 1);
        }
        for (int car = 5; car >= 0; car--) {
            Check.same("back to front", x.takeBack(), car);
        }
    }

    static void takeBackOfEmpty() {
        Check.promise(6, "the log is empty");
        Edge.state("without cars", "", CarTangos::takeBack);
        Edge.state("no car can slide", "h2.0*3;w13", CarTangos::takeBack);
        Edge.refused("IllegalStateException", "none has slid", () -> Parks.of("h2.0*2"), CarTangos::takeBack);
        CarTangos x = Edge.logged("h2.0*2", 2);
        Check.same("the second, the first", x.takeBack() + " " + x.takeBack(), "0 0");
        Check.state("then none", x::takeBack);
        Parks.fillLog(x, 3);
        x.rewind();
        Check.state("none behind rewind", x::takeBack);
        x.slide(0, 1);
        x.toggleWall(0);
        Check.state("none behind a wall that came", x::takeBack);
        x.undo();
        Check.same("but when that is undone", x.takeBack(), 0);
    }

    // ---- promise 7: rewind

    static void rewind() {
        Check.promise(7, "Takes all slides of the log back. Undoable, as one call.");
        Edge.undone("an empty log", Parks.of("h2.0*2"), CarTangos::rewind, 0);
        Edge.undone("no car", new CarTangos(), CarTangos::rewind, 0);
        Edge.undone("one slide", Edge.logged("h2.0*2", 1), CarTangos::rewind, 1);
        Edge.undone("a full log", Edge.logged("h2.0*2", 60), CarTangos::rewind, 60);
        CarTangos x = Parks.of("h2.0*2;v4.2*3");
        x.slide(1, -1);
        x.slide(0, 2);
        x.slide(1, -1);
        x.slide(0, -1);
        Edge.undone("slides of two cars", x, CarTangos::rewind, 4);
        x.rewind();
        Check.same("all are back", Parks.sight(x), "h2.0*2 v4.2*3|||no stop");
    }

    static void rewindAnswers() {
        Check.promise(7, "Returns how many.");
        for (int slides : new int[] {0, 1, 2, 59, 60}) {
            CarTangos x = Edge.logged("h2.0*2", slides);
            Check.same("of " + slides, x.rewind() + " " + x.logged() + " " + x.placeOf(0), slides + " 0 0");
            Check.same("then none", x.rewind(), 0);
        }
    }

    // ---- promise 8: driveOut

    static void driveOut() {
        Check.promise(8, "Makes the slides of the first plan with the fewest slides. Undoable, as one call.");
        Edge.undone("out already", Parks.of("h2.3*2"), CarTangos::driveOut, 0);
        Edge.undone("one slide", Parks.of("h2.0*2"), CarTangos::driveOut, 1);
        Edge.undone("two slides", Edge.busy(Parks.ONE_IN_THE_WAY), CarTangos::driveOut, 2);
        Edge.undone("eleven slides", Parks.of(Parks.LONG_PLAN), CarTangos::driveOut, 11);
        CarTangos two = Edge.busy(Parks.ONE_IN_THE_WAY);
        two.driveOut();
        Check.same("they are logged behind the others", Parks.logOf(two), "0+1 0-1 1-1 0+3");
        Check.same("the red car is out", two.isOut() + " " + Parks.carsOf(two), "true h2.3*2 v3.0*2");
        two.driveOut();
        Check.same("out already: no slide", Parks.logOf(two), "0+1 0-1 1-1 0+3");
        CarTangos dear = Parks.of(Parks.DEAR_PLAN);
        dear.driveOut();
        Check.same("the fewest slides, not the fewest steps", dear.logged() + " " + dear.fuel(), "5 26");
    }

    static void driveOutAnswers() {
        Check.promise(8, "Returns how many.");
        String[] parks = {"h2.3*2", "h2.0*2", Parks.ONE_IN_THE_WAY, Parks.DEAR_PLAN, Parks.LONG_PLAN};
        int[] dues = {0, 1, 2, 5, 11};
        for (int i = 0; i < parks.length; i++) {
            CarTangos x = Parks.of(parks[i]);
            Check.same("in " + parks[i], x.driveOut() + " " + x.logged() + " " + x.isOut(), dues[i] + " " + dues[i] + " true");
        }
        CarTangos logged = Edge.logged(Parks.ONE_IN_THE_WAY, 3);
        Check.same("behind three", logged.driveOut() + " " + logged.logged(), "2 5");
    }

    static void driveOutOfNone() {
        Check.promise(8, "there are no cars");
        Edge.state("a new park", "", CarTangos::driveOut);
        Edge.state("walls alone", "w0;w24", CarTangos::driveOut);
        CarTangos x = Parks.of("h2.0*2");
        x.dropLast();
        Check.state("the last one went", x::driveOut);
        x.undo();
        Check.same("it is back", x.driveOut(), 1);
    }

    static void driveOutWithoutPlan() {
        Check.promise(8, "there is no plan");
        Edge.state("a long car ahead", Parks.NEVER, CarTangos::driveOut);
        Edge.state("a wall at the exit", "h2.0*2;w14", CarTangos::driveOut);
        Edge.state("a wall at once", "h2.0*2;w12", CarTangos::driveOut);
        Edge.state("a car in its lane", "h2.0*2;h2.2*2", CarTangos::driveOut);
        CarTangos x = Parks.of("h2.0*2;w14");
        x.toggleWall(14);
        Check.same("the wall went", x.driveOut(), 1);
    }

    static void driveOutPastTheLog() {
        Check.promise(8, "the log would have more than 60 slides");
        CarTangos fits = Edge.logged(Parks.ONE_IN_THE_WAY, 58);
        Check.same("58 and 2", fits.driveOut() + " " + fits.logged(), "2 60");
        Check.same("60 and none", fits.driveOut() + " " + fits.logged(), "0 60");
        Check.same("60 and none is saved, too", fits.savedStates() + " " + fits.undo() + fits.undo(), "5 43");
        Edge.refused("IllegalStateException", "59 and 2, one would fit",
                () -> Edge.logged(Parks.ONE_IN_THE_WAY, 59), CarTangos::driveOut);
        Edge.refused("IllegalStateException", "60 and 2",
                () -> Edge.logged(Parks.ONE_IN_THE_WAY, 60), CarTangos::driveOut);
        Edge.refused("IllegalStateException", "60 and 1", () -> Edge.logged("h2.0*2", 60), CarTangos::driveOut);
        CarTangos one = Edge.logged("h2.0*2", 59);
        Check.same("59 and 1", one.driveOut() + " " + one.logged(), "1 60");
        Check.same("49 and 11", behindSlidesOfALongPlan(49).driveOut(), 11);
        Edge.refused("IllegalStateException", "50 and 11", () -> behindSlidesOfALongPlan(50), CarTangos::driveOut);
    }

    /** The park of a plan of eleven slides, also behind each of these. */
    private static CarTangos behindSlidesOfALongPlan(int slides) {
        CarTangos x = Parks.of(Parks.LONG_PLAN);
        for (int i = 0; i < slides; i++) {
            x.slide(1, i % 2 == 0 ? 1 : -1);
        }
        return x;
    }

    // ---- promises 30 to 35: the log

    static void logged() {
        Check.promise(30, "Returns the number of slides of the log.");
        CarTangos x = Parks.of("h2.0*2");
        Check.same("none", x.logged(), 0);
        for (int i = 1; i <= 60; i++) {
            x.slide(0, i % 2 == 1 ? 3 : -3);
            Check.same("slides, not steps", x.logged(), i);
        }
        Check.state("a 61st", () -> x.slide(0, 3));
        Check.same("a refused one is not logged", x.logged(), 60);
        x.takeBack();
        Check.same("one is taken back", x.logged(), 59);
        x.rewind();
        Check.same("all are taken back", x.logged(), 0);
        Check.same("without cars", new CarTangos().logged(), 0);
    }

    static void carOfSlide() {
        Check.promise(31, "Returns the car of a slide of the log.", "Returns the car.");
        CarTangos x = Parks.of("h2.0*2;h0.0*2;h1.0*2;h3.0*2;h4.0*2;v4.1*2");
        int[] cars = {5, 0, 4, 1, 3, 2};
        for (int car : cars) {
            x.slide(car, car == 5 ? -1 : 1);
        }
        for (int i = 0; i < cars.length; i++) {
            Check.same("slide " + i, x.carOfSlide(i), cars[i]);
        }
    }

    static void carOfSlideFrom0() {
        Check.promise(31, "`slide`: from 0");
        CarTangos x = Parks.of(Parks.ONE_IN_THE_WAY);
        x.slide(1, -1);
        Check.same("the first one", x.carOfSlide(0), 1);
        for (int i = 0; i < 59; i++) {
            x.slide(0, i % 2 == 0 ? 1 : -1);
        }
        Check.same("the first, the second, the 60th", "" + x.carOfSlide(0) + x.carOfSlide(1) + x.carOfSlide(59), "100");
    }

    static void carOfNoSlide() {
        Check.promise(31, "there is no such slide");
        Edge.noSuchSlides(x -> x::carOfSlide);
    }

    static void changeBySlide() {
        Check.promise(32, "Returns the change of the place by a slide of the log.", "Returns the change.");
        CarTangos x = Parks.of("h2.0*2;v4.3*2");
        int[] changes = {3, -3, 2, -2, 1, 1, -1, -1};
        for (int change : changes) {
            x.slide(0, change);
        }
        x.slide(1, -3);
        for (int i = 0; i < changes.length; i++) {
            Check.same("slide " + i, x.changeBySlide(i), changes[i]);
        }
        Check.same("up", x.changeBySlide(8), -3);
    }

    static void changeBySlideFrom0() {
        Check.promise(32, "`slide`: from 0");
        CarTangos x = Parks.of("h2.0*2");
        x.slide(0, 2);
        Check.same("the first one", x.changeBySlide(0), 2);
        for (int i = 0; i < 59; i++) {
            x.slide(0, i % 2 == 0 ? 1 : -1);
        }
        Check.same("the first, the second, the 60th",
                x.changeBySlide(0) + " " + x.changeBySlide(1) + " " + x.changeBySlide(59), "2 1 1");
    }

    static void changeByNoSlide() {
        Check.promise(32, "there is no such slide");
        Edge.noSuchSlides(x -> x::changeBySlide);
    }

    static void stepsOf() {
        Check.promise(33, "Returns the steps that a car made in the log.", "Returns the steps.");
        CarTangos x = Parks.of("h2.0*2;v4.1*3");
        Check.same("none yet", x.stepsOf(0) + " " + x.stepsOf(1), "0 0");
        x.slide(0, 2);
        x.slide(0, -1);
        x.slide(1, -1);
        Check.same("to and fro", x.stepsOf(0) + " " + x.stepsOf(1), "3 1");
        x.takeBack();
        Check.same("one is taken back", x.stepsOf(0) + " " + x.stepsOf(1), "3 0");
        x.rewind();
        Check.same("all are taken back", x.stepsOf(0), 0);
        CarTangos most = Parks.of("h2.0*2");
        for (int i = 0; i < 60; i++) {
            most.slide(0, i % 2 == 0 ? 3 : -3);
        }
        Check.same("a full log", most.stepsOf(0), 180);
        most.addCar(0, 0, 2);
        Check.same("behind a car that came", most.stepsOf(0) + " " + most.stepsOf(1), "0 0");
    }

    static void stepsOfCars() {
        Check.promise(33, "`car`: its number");
        CarTangos x = Parks.of("h2.0*2;h0.0*2;h1.0*2;h3.0*2;h4.0*2;v4.1*2");
        for (int car = 1; car <= 4; car++) {
            x.slide(car, 1 + car % 2);
        }
        x.slide(5, 2);
        int[] dues = {0, 2, 1, 2, 1, 2};
        for (int car = 0; car < 6; car++) {
            Check.same("car " + car, x.stepsOf(car), dues[car]);
        }
    }

    static void stepsOfNoCar() {
        Check.promise(33, "there is no such car");
        Edge.noSuchCars(x -> x::stepsOf);
    }

    static void fuel() {
        Check.promise(34, "Returns the fuel that the slides of the log cost, told slide by slide.");
        fuelToldBy(CarTangos::fuel);
    }

    static void fuelByCars() {
        Check.promise(35, "Returns the same, told car by car.");
        fuelToldBy(CarTangos::fuelByCars);
    }

    private static void fuelToldBy(ToIntFunction<CarTangos> fuel) {
        Check.same("no cars", fuel.applyAsInt(new CarTangos()), 0);
        CarTangos x = Parks.of("h2.0*2;v4.1*3");
        Check.same("no slides", fuel.applyAsInt(x), 0);
        x.slide(0, 2);
        Check.same("two steps of 2", fuel.applyAsInt(x), 4);
        x.slide(1, -1);
        Check.same("and one of 3", fuel.applyAsInt(x), 7);
        x.slide(0, -2);
        Check.same("back is not for nothing", fuel.applyAsInt(x), 11);
        x.takeBack();
        Check.same("taken back", fuel.applyAsInt(x), 7);
        x.addCar(0, 0, 2);
        Check.same("behind a car that came", fuel.applyAsInt(x), 0);
        x.undo();
        Check.same("undone", fuel.applyAsInt(x), 7);
        x.rewind();
        Check.same("rewound", fuel.applyAsInt(x), 0);
        CarTangos six = Parks.of("h2.0*2;h0.0*2;h1.0*3;h3.0*2;h4.0*2;v4.1*3");
        for (int car = 0; car < 6; car++) {
            int before = fuel.applyAsInt(six);
            six.slide(car, car == 5 ? -1 : 1);
            Check.same("one step of car " + car, fuel.applyAsInt(six) - before, six.lengthOf(car));
        }
        for (int length = 2; length <= 3; length++) {
            CarTangos full = Parks.of("h2.0*" + length);
            int most = 5 - length;
            for (int i = 0; i < 60; i++) {
                full.slide(0, i % 2 == 0 ? most : -most);
            }
            Check.same("a full log of the farthest slides", fuel.applyAsInt(full), 360);
        }
    }
}
