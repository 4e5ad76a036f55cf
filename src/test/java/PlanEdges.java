import java.util.function.ToIntFunction;

/** The edges that promises 36 to 46 name: plans, and arrangements that can be reached. */
final class PlanEdges {
    /** Parks without a plan: walls, a long car, and cars in the lane. */
    private static final String[] NO_PLAN = {"h2.0*2;w14", "h2.0*2;w12", Parks.NEVER, "h2.0*2;h2.2*2", "h0.0*2;h0.2*3"};

    private static final String WIDE = "h2.0*2;v0.0*2;v1.3*2;v2.0*2;v3.3*2;v4.0*2";

    private PlanEdges() {
    }

    /** The answer where there is no car, no plan, and no slide to make. */
    private static void atTheEdges(ToIntFunction<CarTangos> fewest) {
        Check.same("no car", fewest.applyAsInt(new CarTangos()), -1);
        Check.same("no car, but walls", fewest.applyAsInt(Parks.of("w0;w14;w24")), -1);
        CarTangos went = Parks.of("h2.3*2");
        went.dropLast();
        Check.same("a car that went", fewest.applyAsInt(went), -1);
        for (String park : NO_PLAN) {
            Check.same("no plan in " + park, fewest.applyAsInt(Parks.of(park)), -1);
        }
        Check.same("out already", fewest.applyAsInt(Parks.of("h2.3*2")), 0);
        Check.same("out already, 3 long", fewest.applyAsInt(Parks.of("h2.2*3")), 0);
        Check.same("out already, locked in", fewest.applyAsInt(Parks.of("h2.3*2;w12")), 0);
        CarTangos wall = Parks.of("h2.3*2");
        wall.slide(0, -3);
        wall.toggleWall(13);
        Check.same("a wall has come", fewest.applyAsInt(wall), -1);
        wall.undo();
        wall.slide(0, 3);
        Check.same("out again", fewest.applyAsInt(wall), 0);
        CarTangos stays = Parks.of(Parks.ONE_IN_THE_WAY);
        String before = Parks.sight(stays);
        fewest.applyAsInt(stays);
        Check.same("nothing is changed", Parks.sight(stays) + stays.savedStates(), before + 2);
    }

    private static void told(ToIntFunction<CarTangos> fewest, int... dues) {
        String[] parks = {"h2.0*2", "h2.2*2", "h2.0*3", Parks.ONE_IN_THE_WAY, Parks.DEAR_PLAN, Parks.STEPS_OR_FUEL,
            Parks.LONG_PLAN, "h0.0*3;v3.0*3", "h0.0*3;v3.0*3;v4.0*3"};
        for (int i = 0; i < parks.length; i++) {
            Check.same("in " + parks[i], fewest.applyAsInt(Parks.of(parks[i])), dues[i]);
        }
        CarTangos full = Edge.logged("h2.0*2", 60);
        Check.same("a full log does not matter", fewest.applyAsInt(full), fewest.applyAsInt(Parks.of("h2.0*2")));
    }

    /** What is told of small parks, behind what was told of greater ones by the same object. */
    private static void toldAnew(ToIntFunction<CarTangos> told) {
        String[] parks = {"", "h2.0*2", "h2.3*2", "h2.0*2;w12", "h2.0*2;h2.2*2", Parks.NEVER, "h2.0*3;v3.0*2"};
        for (String greater : new String[] {WIDE, Parks.LONG_PLAN, Parks.STEPS_OR_FUEL}) {
            for (String park : parks) {
                CarTangos x = Parks.of(greater);
                x.digest();
                told.applyAsInt(x);
                for (int car = 6; car > 0; car--) {
                    x.dropLast();
                }
                if (x.walls() > 0) {
                    x.toggleWall(9);
                }
                if (!park.isEmpty()) {
                    Edge.work(x, park);
                }
                Check.same("of " + park + " behind " + greater, told.applyAsInt(x), told.applyAsInt(Parks.of(park)));
            }
        }
    }

    // ---- promises 36 to 40: plans

    static void fewestSlides() {
        Check.promise(36, "Returns the fewest slides of a plan, told from the arrangement of now");
        told(CarTangos::fewestSlides, 1, 1, 1, 2, 5, 4, 11, 2, 3);
        CarTangos x = Parks.of(Parks.LONG_PLAN);
        x.slide(x.nextCar(), x.nextChange());
        Check.same("of now, not of before", x.fewestSlides(), 10);
        x.takeBack();
        Check.same("taken back", x.fewestSlides(), 11);
    }

    static void fewestSlidesOfNone() {
        Check.promise(36, "-1 if there is no plan, or no car.");
        atTheEdges(CarTangos::fewestSlides);
    }

    static void fewestSlidesFromEnds() {
        Check.promise(37, "Returns the same, told from all arrangements in which the red car is out.");
        told(CarTangos::fewestSlidesFromEnds, 1, 1, 1, 2, 5, 4, 11, 2, 3);
        atTheEdges(CarTangos::fewestSlidesFromEnds);
        Check.same("an end that can't be reached", Parks.of("h2.0*2;w12").fewestSlidesFromEnds(), -1);
        Check.same("several ends, the nearest one", Parks.of("h2.2*2;v0.0*2;v1.1*2").fewestSlidesFromEnds(), 1);
    }

    static void fewestSteps() {
        Check.promise(38, "Returns the fewest steps of a plan");
        told(CarTangos::fewestSteps, 3, 1, 2, 4, 7, 6, 20, 3, 4);
    }

    static void fewestStepsOfNone() {
        Check.promise(38, "-1 if there is none, or no car.");
        atTheEdges(CarTangos::fewestSteps);
    }

    static void leastFuel() {
        Check.promise(39, "Returns the least fuel of a plan, told by buckets: arrangements one behind the other by the fuel that"
                + " leads there;");
        told(CarTangos::leastFuel, 6, 2, 6, 8, 14, 14, 40, 9, 12);
    }

    static void leastFuelOfNone() {
        Check.promise(39, "-1 if there is no plan, or no car.");
        atTheEdges(CarTangos::leastFuel);
    }

    static void leastFuelByRounds() {
        Check.promise(40, "Returns the same, told by rounds over all arrangements, until none becomes cheaper.");
        told(CarTangos::leastFuelByRounds, 6, 2, 6, 8, 14, 14, 40, 9, 12);
        atTheEdges(CarTangos::leastFuelByRounds);
    }

    static void plansAreToldAnew() {
        Check.promise(36, "told from the arrangement of now");
        toldAnew(CarTangos::fewestSlides);
        toldAnew(CarTangos::fewestSlidesFromEnds);
        toldAnew(CarTangos::fewestSteps);
        toldAnew(CarTangos::leastFuel);
        toldAnew(CarTangos::leastFuelByRounds);
        toldAnew(x -> Check.answer(x::nextCar) instanceof Integer ? x.nextCar() : -1);
        toldAnew(x -> Check.answer(x::nextChange) instanceof Integer ? x.nextChange() : -9);
    }

    /** Told as often as an object may be asked, in parks with many slides, out, one step from out, and farther off. */
    static void plansAreToldAgainAndAgain() {
        Check.term(39, "An object is used for at most 512 calls after it has been made;");
        String others = ";h0.2*2;h1.2*2;h3.2*2;h4.2*2;v0.1*2";
        for (int place = 3; place >= 1; place--) {
            CarTangos x = Parks.of("h2." + place + "*2" + others);
            for (int call = 7; call <= 512; call++) {
                Check.same("least fuel, call " + call, x.leastFuel(), 2 * (3 - place));
            }
            CarTangos y = Parks.of("h2." + place + "*2" + others);
            for (int call = 7; call <= 509; call += 4) {
                Check.same("the others, call " + call, y.fewestSlides() + " " + y.fewestSlidesFromEnds() + " " + y.fewestSteps()
                        + " " + y.leastFuelByRounds(), place == 3 ? "0 0 0 0" : "1 1 " + (3 - place) + " " + 2 * (3 - place));
            }
        }
    }

    static void eachForItself() {
        Check.term(38, "Fewest slides, fewest steps and least fuel are meant among all plans, each for itself.");
        CarTangos steps = Parks.of(Parks.DEAR_PLAN);
        Check.same("fewest slides and fewest steps are not of one plan", steps.fewestSlides() + " " + steps.fewestSteps(), "5 7");
        steps.driveOut();
        Check.same("the plan of 5 slides makes 13 steps", steps.logged() + " " + (steps.fuel() / 2), "5 13");
        CarTangos fuel = Parks.of(Parks.STEPS_OR_FUEL);
        Check.same("6 steps burn 15 at least, 7 steps burn 14", fuel.fewestSteps() + " " + fuel.leastFuel(), "6 14");
        Check.same("and by rounds", fuel.leastFuelByRounds(), 14);
    }

    // ---- promises 41 and 42: the next slide

    private static final String[] NEXT = {"h2.0*2", "h2.2*2", "h2.0*3", Parks.ONE_IN_THE_WAY, "h2.0*2;v4.1*2;v3.1*2",
        "h2.0*2;v3.2*2", "h2.0*2;v3.2*2;w3", "h2.1*2;v3.1*2;h0.3*2;h4.3*2", "h2.0*2;v4.2*2;w4", Parks.LONG_PLAN};

    static void nextCar() {
        Check.promise(41, "Returns the car of the next slide of the first plan with the fewest slides.", "Returns the car.");
        int[] dues = {0, 0, 0, 1, 1, 1, 1, 2, 1, 4};
        for (int i = 0; i < NEXT.length; i++) {
            Check.same("in " + NEXT[i], Parks.of(NEXT[i]).nextCar(), dues[i]);
        }
    }

    static void nextCarOfNone() {
        Check.promise(41, "there is no plan, no car, or the red car is out");
        nextOfNone(CarTangos::nextCar);
    }

    static void nextChange() {
        Check.promise(42, "Returns the change of its place by this slide.", "Returns the change.");
        int[] dues = {3, 1, 2, -1, -1, -2, 1, -3, 1, -1};
        for (int i = 0; i < NEXT.length; i++) {
            Check.same("in " + NEXT[i], Parks.of(NEXT[i]).nextChange(), dues[i]);
        }
    }

    static void nextChangeOfNone() {
        Check.promise(42, "there is no plan, no car, or the red car is out");
        nextOfNone(CarTangos::nextChange);
    }

    private static void nextOfNone(ToIntFunction<CarTangos> next) {
        for (String park : NO_PLAN) {
            Edge.state("no plan in " + park, park, x -> next.applyAsInt(x));
        }
        Edge.state("no car", "", x -> next.applyAsInt(x));
        Edge.state("no car, but walls", "w0;w24", x -> next.applyAsInt(x));
        Edge.state("out", "h2.3*2", x -> next.applyAsInt(x));
        Edge.state("out, 3 long", "h2.2*3;v0.0*2", x -> next.applyAsInt(x));
        CarTangos x = Parks.of("h2.0*2");
        Check.same("one slide is left", String.valueOf(Check.answer(() -> next.applyAsInt(x))).length(), 1);
        x.driveOut();
        Check.state("driven out", () -> next.applyAsInt(x));
    }

    static void firstPlan() {
        Check.term(41, "Of plans with the fewest slides the first one is meant: at each arrangement, of the slides with which"
                + " such a plan goes on, that of the lowest car, of several the one with the least change of its place"
                + " (-3 is the least).");
        CarTangos lowest = Parks.of("h2.0*2;v4.1*2;v3.1*2");
        Check.same("the lowest car", lowest.nextCar() + " " + lowest.nextChange(), "1 -1");
        CarTangos turned = Parks.of("h2.0*2;v3.1*2;v4.1*2");
        Check.same("the lowest number, wherever it lies", turned.nextCar() + " " + turned.nextChange(), "1 -1");
        CarTangos least = Parks.of("h2.0*2;v3.2*2");
        Check.same("-2 is less than 1", least.nextCar() + " " + least.nextChange(), "1 -2");
        CarTangos three = Parks.of("h2.1*2;v3.1*2;h0.3*2;h4.3*2");
        Check.same("-3 is less than -2", three.nextChange() + " " + three.fewestBehind(2, -2) + three.fewestBehind(2, -3), "-3 22");
        Check.same("a lower car whose slides do not go on is passed over",
                three.nextCar() + " " + three.fewestBehind(0, -1) + " " + three.fewestSlides(), "2 3 3");
        CarTangos all = Parks.of("h2.0*2;v3.2*2;v4.2*2");
        all.driveOut();
        Check.same("at each arrangement", Parks.logOf(all), "1-2 2-2 0+3");
        CarTangos slides = Parks.of(Parks.LONG_PLAN);
        CarTangos driven = Parks.of(Parks.LONG_PLAN);
        driven.driveOut();
        for (int i = 0; i < driven.logged(); i++) {
            Check.same("slide " + i + " of a long plan", slides.nextCar() + " " + slides.nextChange(),
                    driven.carOfSlide(i) + " " + driven.changeBySlide(i));
            slides.slide(slides.nextCar(), slides.nextChange());
        }
    }

    static void emptyPlan() {
        Check.term(36, "A plan is a row of slides, one behind the other (also none), behind which the red car is out.");
        CarTangos x = Parks.of("h2.3*2;v0.0*2");
        Check.same("none is a plan", x.fewestSlides() + " " + x.fewestSlidesFromEnds() + " " + x.fewestSteps() + " "
                + x.leastFuel() + " " + x.leastFuelByRounds() + " " + x.driveOut(), "0 0 0 0 0 0");
        Check.same("others may slide ahead of the red one", Parks.of(Parks.ONE_IN_THE_WAY).fewestSlides(), 2);
    }

    // ---- promises 43 to 46: arrangements

    static void reachable() {
        Check.promise(43, "Returns the number of arrangements that can be reached");
        String[] parks = {"h2.0*2", "h2.0*3", "h2.1*2;w14", "h2.0*2;w12", "h2.0*2;h2.2*2", "h2.0*2;h2.3*2", Parks.NEVER,
            Parks.LONG_PLAN, WIDE, "h0.0*3;w3;v0.1*2;w15"};
        int[] dues = {4, 3, 3, 1, 3, 3, 6, 123, 1024, 1};
        for (int i = 0; i < parks.length; i++) {
            Check.same("in " + parks[i], Parks.of(parks[i]).reachable(), dues[i]);
        }
        Check.same("from any of them", Edge.logged(Parks.NEVER, 1).reachable(), 6);
        Check.same("a full log does not matter", Edge.logged("h2.0*2", 60).reachable(), 4);
    }

    static void reachableWithoutCars() {
        Check.promise(43, "1 without cars");
        withoutCars(CarTangos::reachable, 1);
    }

    private static void withoutCars(ToIntFunction<CarTangos> told, int due) {
        Check.same("a new object", told.applyAsInt(new CarTangos()), due);
        Check.same("walls alone", told.applyAsInt(Parks.of("w0;w7;w12;w24")), due);
        CarTangos x = Parks.of("h2.0*2");
        Check.same("one car is not none", told.applyAsInt(x) != due, true);
        x.dropLast();
        Check.same("the last one went", told.applyAsInt(x), due);
    }

    static void reachableIncludesNow() {
        Check.term(43, "it can be reached, if slides, one behind the other (also none), lead there from that of now.");
        Check.same("none leads to that of now", Parks.of("h2.0*2;w12").reachable(), 1);
        Check.same("out, locked in", Parks.of("h2.3*2;w12").reachable() + " " + Parks.of("h2.3*2;w12").reachableOut(), "1 1");
        Check.same("several lead farther than one", Parks.of(Parks.ONE_IN_THE_WAY).reachable(), 12);
    }

    static void reachableOut() {
        Check.promise(44, "Returns the number of those in which the red car is out");
        String[] parks = {"h2.0*2", "h2.0*3", "h2.3*2", "h2.0*2;w14", "h2.0*2;w12", "h2.0*2;h2.2*2", "h2.2*2;h2.0*2", Parks.NEVER,
            Parks.ONE_IN_THE_WAY, Parks.LONG_PLAN, WIDE};
        int[] dues = {1, 1, 1, 0, 0, 0, 2, 0, 2, 55, 256};
        for (int i = 0; i < parks.length; i++) {
            Check.same("in " + parks[i], Parks.of(parks[i]).reachableOut(), dues[i]);
        }
    }

    static void reachableOutWithoutCars() {
        Check.promise(44, "0 without cars");
        withoutCars(CarTangos::reachableOut, 0);
    }

    static void farthest() {
        Check.promise(45, "Returns the greatest number of slides that an arrangement that can be reached takes, by fewest ones.");
        String[] parks = {"h2.0*2", "h2.1*2", "h2.0*2;w12", "h2.0*2;h2.2*2", Parks.NEVER, Parks.LONG_PLAN,
            WIDE};
        int[] dues = {1, 1, 0, 2, 2, 15, 7};
        for (int i = 0; i < parks.length; i++) {
            Check.same("in " + parks[i], Parks.of(parks[i]).farthest(), dues[i]);
        }
        Check.same("without cars", new CarTangos().farthest() + Parks.of("w0;w24").farthest(), 0);
        CarTangos x = Parks.of(Parks.LONG_PLAN);
        x.driveOut();
        Check.same("not less than the way back", x.farthest() >= 11, true);
    }

    static void arrangements() {
        Check.promise(46, "Returns the number of all arrangements (reached or not) in which no two cars, and no car and a wall,"
                + " are on the same cell");
        String[] parks = {"h2.0*2", "h2.0*3", "h2.0*2;w12", "h2.0*2;w14", "h2.0*2;h2.2*2", "h2.0*2;h2.2*3", Parks.NEVER,
            Parks.ONE_IN_THE_WAY, Parks.LONG_PLAN, WIDE, "h0.0*2;h0.2*2;h1.0*2;h1.2*2;h2.0*2;h2.2*2"};
        int[] dues = {4, 3, 2, 3, 6, 2, 6, 12, 123, 1024, 216};
        for (int i = 0; i < parks.length; i++) {
            Check.same("in " + parks[i], Parks.of(parks[i]).arrangements(), dues[i]);
        }
        CarTangos x = Parks.of("h2.0*2;w12");
        Check.same("reached or not", x.reachable() + " of " + x.arrangements(), "1 of 2");
        x.undo();
        Check.same("without the wall", x.arrangements(), 4);
    }

    static void arrangementsWithoutCars() {
        Check.promise(46, "1 without cars");
        withoutCars(CarTangos::arrangements, 1);
    }

    static void arrangementsAreToldAnew() {
        Check.promise(44, "Returns the number of those in which the red car is out");
        toldAnew(CarTangos::reachable);
        toldAnew(CarTangos::reachableOut);
        toldAnew(CarTangos::farthest);
        toldAnew(CarTangos::arrangements);
        toldAnew(x -> (int) (24 * x.reachedShare()));
    }

    static void arrangementTellsPlaces() {
        Check.term(46, "An arrangement tells the place of each car (lanes, lengths and walls stay);");
        Check.same("two cars of a lane, in either order", Parks.of("h2.0*2;h2.2*2").arrangements(), 6);
        Check.same("three places of each", Parks.of("h0.0*3;h4.0*3").arrangements(), 9);
        CarTangos x = Parks.of(Parks.LONG_PLAN);
        x.driveOut();
        Check.same("they are the same from everywhere", x.arrangements() + " " + x.reachable(), "123 123");
    }
}
