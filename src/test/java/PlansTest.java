/** Promises 36 to 51: plans, arrangements, what would be, the digest. */
public final class PlansTest {
    public static void main(String[] args) {
        withoutCars();
        eachToldFirst();
        oneInTheWay();
        neverOut();
        outAlready();
        longPlan();
        slidesStepsAndFuelEachForItself();
        nextSlides();
        arrangements();
        carsInOneLane();
        fewestBehind();
        fewestWithoutLast();
        fewestWithWall();
        reachedShare();
        digest();
        digestOfEveryPart();
        Check.end("PlansTest");
    }

    private static String plansOf(CarTangos x) {
        return x.fewestSlides() + " " + x.fewestSlidesFromEnds() + " " + x.fewestSteps() + " " + x.leastFuel() + " "
                + x.leastFuelByRounds();
    }

    private static String arrangementsOf(CarTangos x) {
        return x.reachable() + " " + x.reachableOut() + " " + x.farthest() + " " + x.arrangements();
    }

    private static void withoutCars() {
        CarTangos x = new CarTangos();
        x.toggleWall(14);
        Check.same("plans", plansOf(x), "-1 -1 -1 -1 -1");
        Check.same("arrangements", arrangementsOf(x), "1 0 0 1");
        Check.state("nextCar", x::nextCar);
        Check.state("nextChange", x::nextChange);
        Check.same("share", x.reachedShare(), 1.0);
        Check.same("with a wall", x.fewestWithWall(0), -1);
    }

    /** Each answer is told from the park of now, whatever was asked before, or nothing was. */
    private static void eachToldFirst() {
        String[] parks = {Parks.LONG_PLAN, Parks.NEVER, Parks.LONG_PLAN, "h2.3*2"};
        long[][] dues = {{11, 11, 20, 40, 40, 123, 55, 15, 123, 11}, {-1, -1, -1, -1, -1, 6, 0, 2, 6, -1},
            {11, 11, 20, 40, 40, 123, 55, 15, 123, 11}, {0, 0, 0, 0, 0, 4, 1, 1, 4, 0}};
        for (int asked = 0; asked < 10; asked++) {
            for (int before = 0; before < 10; before++) {
                CarTangos x = new CarTangos();
                for (int i = 0; i < parks.length; i++) {
                    for (int cars = x.cars(); cars > 0; cars--) {
                        x.dropLast();
                    }
                    x.rewind();
                    rebuild(x, parks[i]);
                    Check.same(asked + " behind " + before + " of " + parks[i], tell(x, asked), dues[i][asked]);
                    tell(x, before);
                }
            }
        }
    }

    private static void rebuild(CarTangos x, String park) {
        for (int cell = 0; cell < 25; cell++) {
            if (x.isWall(cell)) {
                x.toggleWall(cell);
            }
        }
        Parks.type(x, park);
        x.work();
    }

    private static long tell(CarTangos x, int asked) {
        switch (asked) {
            case 0:
                return x.fewestSlides();
            case 1:
                return x.fewestSlidesFromEnds();
            case 2:
                return x.fewestSteps();
            case 3:
                return x.leastFuel();
            case 4:
                return x.leastFuelByRounds();
            case 5:
                return x.reachable();
            case 6:
                return x.reachableOut();
            case 7:
                return x.farthest();
            case 8:
                return x.arrangements();
            default:
                return x.isOut() ? 0 : toldByTheNext(x);
        }
    }

    private static long toldByTheNext(CarTangos x) {
        Object car = Check.answer(x::nextCar);
        return car instanceof Integer ? x.fewestBehind((Integer) car, x.nextChange()) + 1 : -1;
    }

    private static void oneInTheWay() {
        CarTangos x = Parks.of(Parks.ONE_IN_THE_WAY);
        Check.same("plans", plansOf(x), "2 2 4 8 8");
        Check.same("next", x.nextCar() + " " + x.nextChange(), "1 -1");
        x.slide(0, 1);
        Check.same("a slide on", plansOf(x), "2 2 3 6 6");
        x.slide(1, 2);
        Check.same("two slides on", plansOf(x), "1 1 2 4 4");
        Check.same("next then", x.nextCar() + " " + x.nextChange(), "0 2");
        CarTangos three = Parks.of("h2.0*3");
        Check.same("3 long", plansOf(three), "1 1 2 6 6");
    }

    private static void neverOut() {
        CarTangos x = Parks.of(Parks.NEVER);
        Check.same("plans", plansOf(x), "-1 -1 -1 -1 -1");
        Check.state("nextCar", x::nextCar);
        Check.state("nextChange", x::nextChange);
        CarTangos wall = Parks.of("h2.0*2;w14");
        Check.same("a wall", plansOf(wall), "-1 -1 -1 -1 -1");
        Check.same("arrangements", arrangementsOf(wall), "3 0 1 3");
    }

    private static void outAlready() {
        CarTangos x = Parks.of("h2.3*2;v0.0*2");
        Check.same("plans", plansOf(x), "0 0 0 0 0");
        Check.state("nextCar", x::nextCar);
        Check.state("nextChange", x::nextChange);
    }

    private static void longPlan() {
        CarTangos x = Parks.of(Parks.LONG_PLAN);
        Check.same("plans", plansOf(x), "11 11 20 40 40");
        Check.same("arrangements", x.reachable() + " " + x.arrangements() + " " + x.farthest(), "123 123 15");
        for (int left = 11; left > 0; left--) {
            Check.same("left", x.fewestSlides() + " " + x.fewestSlidesFromEnds(), left + " " + left);
            Check.same("told ahead", x.fewestBehind(x.nextCar(), x.nextChange()), left - 1);
            x.slide(x.nextCar(), x.nextChange());
        }
        Check.same("out", x.isOut(), true);
        String bySlides = Parks.logOf(x);
        CarTangos again = Parks.of(Parks.LONG_PLAN);
        again.driveOut();
        Check.same("driveOut makes the same plan", Parks.logOf(again), bySlides);
    }

    private static void slidesStepsAndFuelEachForItself() {
        CarTangos x = Parks.of(Parks.DEAR_PLAN);
        Check.same("plans", plansOf(x), "5 5 7 14 14");
        x.driveOut();
        int steps = 0;
        for (int car = 0; car < x.cars(); car++) {
            steps += x.stepsOf(car);
        }
        Check.same("the plan of the fewest slides", x.logged() + " " + steps + " " + x.fuel(), "5 13 26");
        CarTangos heavy = Parks.of("h4.0*2;v3.2*3;h1.2*2;v4.3*2;h3.0*2;h2.0*3");
        Check.same("cars of 3 burn more", plansOf(heavy), "4 4 6 13 13");
        Check.same("another one", plansOf(Parks.of("h3.0*2;v3.3*2;h2.1*3;v4.2*2;h1.1*3")), "5 5 8 18 18");
    }

    private static void nextSlides() {
        CarTangos lowest = Parks.of("h2.0*2;v4.1*2;v3.1*2");
        Check.same("the lowest car, not the nearest", lowest.nextCar() + " " + lowest.nextChange(), "1 -1");
        CarTangos least = Parks.of("h2.0*2;v3.2*2");
        Check.same("-2 goes ahead of +1", least.nextCar() + " " + least.nextChange(), "1 -2");
        CarTangos forwards = Parks.of("h2.0*2;v3.2*2;w3");
        Check.same("no -2: +1", forwards.nextCar() + " " + forwards.nextChange(), "1 1");
        CarTangos red = Parks.of("h2.1*2;v3.1*2;h0.3*2;h4.3*2");
        Check.same("a slide that does not go on is passed over", red.nextCar() + " " + red.nextChange(), "2 -3");
        Check.same("of the slides that go on, the least", red.fewestBehind(2, -3) + " " + red.fewestBehind(2, -2), "2 2");
        Check.same("nothing is changed", Parks.sight(red), "h2.1*2 v3.1*2 h0.3*2 h4.3*2|||no stop");
    }

    private static void arrangements() {
        Check.same("red alone", arrangementsOf(Parks.of("h2.1*2")), "4 1 1 4");
        Check.same("red of 3", arrangementsOf(Parks.of("h2.0*3")), "3 1 1 3");
        CarTangos never = Parks.of(Parks.NEVER);
        Check.same("never out", arrangementsOf(never), "6 0 2 6");
        CarTangos cut = Parks.of("h2.0*2;v3.1*3");
        cut.toggleWall(3);
        Check.same("with a wall above", arrangementsOf(cut), "4 0 2 4");
        CarTangos corner = Parks.of("w12;h2.0*2");
        Check.same("all, reached or not", arrangementsOf(corner), "1 0 0 2");
        CarTangos wide = Parks.of("h2.0*2;v0.0*2;v1.3*2;v2.0*2;v3.3*2;v4.0*2");
        Check.same("wide", arrangementsOf(wide), "1024 256 7 1024");
        wide.slide(0, 3);
        Check.same("from another place", arrangementsOf(wide), "1024 256 7 1024");
    }

    /** They never pass one another; but all arrangements have both orders. */
    private static void carsInOneLane() {
        CarTangos x = Parks.of("h2.0*2;h2.2*2");
        Check.same("plans", plansOf(x), "-1 -1 -1 -1 -1");
        Check.same("arrangements", arrangementsOf(x), "3 0 2 6");
        Check.same("share", x.reachedShare(), 0.5);
        CarTangos other = Parks.of("h2.2*2;h2.0*2");
        Check.same("the red one ahead", plansOf(other), "1 1 1 2 2");
        Check.same("arrangements then", arrangementsOf(other), "3 2 2 6");
    }

    private static void fewestBehind() {
        CarTangos x = Parks.of(Parks.ONE_IN_THE_WAY);
        Check.same("a good slide", x.fewestBehind(1, -1), 1);
        Check.same("another good one", x.fewestBehind(1, 2), 1);
        Check.same("a vain one", x.fewestBehind(1, 1), 2);
        Check.same("one of the red car", x.fewestBehind(0, 1), 2);
        Check.state("not possible", () -> x.fewestBehind(0, 2));
        Check.state("out of the lane", () -> x.fewestBehind(1, -2));
        for (int off : new int[] {0, -4, 4, Integer.MIN_VALUE, Integer.MAX_VALUE}) {
            Check.argument("by " + off, () -> x.fewestBehind(0, off));
            Check.index("a car goes ahead of by " + off, () -> x.fewestBehind(2, off));
        }
        Check.index("car -1", () -> x.fewestBehind(-1, 1));
        Check.index("car 2", () -> x.fewestBehind(2, 1));
        Check.index("car 6", () -> x.fewestBehind(6, 1));
        Check.index("no cars", () -> new CarTangos().fewestBehind(0, 1));
        Check.same("nothing changed", Parks.sight(x) + x.fewestSlides(), "h2.0*2 v3.1*2|||no stop2");
        Check.same("no plan", Parks.of(Parks.NEVER).fewestBehind(0, 1), -1);
        Check.same("out behind it", Parks.of("h2.0*2").fewestBehind(0, 3), 0);
        Check.same("in again behind it", Parks.of("h2.3*2").fewestBehind(0, -3), 1);
        CarTangos full = Parks.of("h2.0*2");
        Parks.fillLog(full, 60);
        Check.same("a full log does not matter", full.fewestBehind(0, 3), 0);
    }

    private static void fewestWithoutLast() {
        Check.state("no car", () -> new CarTangos().fewestWithoutLast());
        Check.state("the red one alone", () -> Parks.of("h2.0*2").fewestWithoutLast());
        CarTangos x = Parks.of(Parks.ONE_IN_THE_WAY);
        Check.same("without it", x.fewestWithoutLast(), 1);
        Check.same("without the long one", Parks.of(Parks.NEVER).fewestWithoutLast(), 1);
        Check.same("no plan all the same", Parks.of(Parks.NEVER + ";h0.0*2").fewestWithoutLast(), -1);
        Check.same("still in the way", Parks.of("h2.0*2;v3.1*2;v4.1*2").fewestWithoutLast(), 2);
        Check.same("out already", Parks.of("h2.3*2;v0.0*2").fewestWithoutLast(), 0);
        Check.same("nothing changed", Parks.sight(x) + x.fewestSlides(), "h2.0*2 v3.1*2|||no stop2");
    }

    private static void fewestWithWall() {
        CarTangos x = Parks.of(Parks.ONE_IN_THE_WAY);
        Check.same("above the other", x.fewestWithWall(3), 2);
        Check.same("it goes down then, not without a wall there", x.fewestWithWall(18), 2);
        Check.same("ahead of the red one", x.fewestWithWall(14), -1);
        Check.same("between", x.fewestWithWall(12), -1);
        Check.same("far off", x.fewestWithWall(24), 2);
        Check.state("on the red car", () -> x.fewestWithWall(10));
        Check.state("on the other", () -> x.fewestWithWall(13));
        Check.index("-1", () -> x.fewestWithWall(-1));
        Check.index("25", () -> x.fewestWithWall(25));
        for (int off : Parks.FAR_OFF) {
            Check.index("cell " + off, () -> x.fewestWithWall(off));
        }
        x.toggleWall(3);
        Check.state("on a wall", () -> x.fewestWithWall(3));
        Check.same("both sides", x.fewestWithWall(18), -1);
        x.toggleWall(0);
        x.toggleWall(5);
        x.toggleWall(20);
        Check.same("a fifth one", x.fewestWithWall(18), -1);
        Check.same("a fifth one, far off", x.fewestWithWall(24), 2);
        Check.same("nothing changed", Parks.sight(x) + x.fewestSlides(), "h2.0*2 v3.1*2|w0w3w5w20||no stop2");
        Check.index("without cars too", () -> new CarTangos().fewestWithWall(25));
        CarTangos walled = new CarTangos();
        walled.toggleWall(7);
        Check.state("on a wall, without cars", () -> walled.fewestWithWall(7));
        Check.same("out already", Parks.of("h2.3*2").fewestWithWall(12), 0);
    }

    private static void reachedShare() {
        Check.same("all", Parks.of("h2.0*2").reachedShare(), 1.0);
        Check.same("half", Parks.of("w12;h2.0*2").reachedShare(), 0.5);
        CarTangos three = Parks.of("h2.0*2;h2.2*2;w0");
        Check.same("half of six", three.reachedShare(), 0.5);
        CarTangos third = Parks.of("h0.0*2;v4.0*2;v4.3*2");
        Check.same("as counted", third.reachedShare(), (double) third.reachable() / third.arrangements());
        CarTangos odd = Parks.of("h2.0*2;h4.0*2;h4.2*2;w7;v3.0*2");
        Check.same("an odd share", odd.reachedShare(), (double) odd.reachable() / (double) odd.arrangements());
        Check.same("it is odd", odd.reachedShare() < 1.0 && odd.reachedShare() > 0.0, true);
    }

    private static void digest() {
        CarTangos x = new CarTangos();
        long hash = 4507;
        long[] values = {0, 0, 25, 0, 0, 0, 0, 0, -1, -1, -1, -1, -1, 1, 0, 0, 1, 0};
        for (long value : values) {
            hash = 31 * hash + value;
        }
        for (int cell = 0; cell < 25; cell++) {
            hash = 31 * (31 * hash - 1);
        }
        hash = 31 * hash;
        hash = 31 * hash + Double.doubleToLongBits(1.0);
        hash = 31 * hash;
        Check.same("a new object's", x.digest(), hash);
        Check.same("twice the same", x.digest(), hash);
        x.append('h');
        x.append('~');
        hash = (hash + 2) * 31 + 'h';
        Check.same("with a buffer", x.digest(), hash * 31 + '~');
    }

    /** The digest of every park, log, stop, buffer and share is told again from the answers of the looks. */
    private static void digestOfEveryPart() {
        String[] parks = {Parks.ONE_IN_THE_WAY, Parks.NEVER, Parks.LONG_PLAN, Parks.DEAR_PLAN, "h2.0*2;h2.2*2;w0",
            "w12;h2.0*2", "h2.0*2;h4.0*2;h4.2*2;w7;v3.0*2", "h0.0*2;h0.2*2;h1.0*2;h1.2*2;h2.0*2;h2.2*2",
            "h0.0*2;v4.0*2;v4.3*2", "h1.2*3;v2.2*3;w5"};
        for (String park : parks) {
            CarTangos x = Parks.of(park);
            Check.same("digest of " + park, x.digest(), Told.digest(x, ""));
            Parks.type(x, "b;b");
            x.work();
            Parks.type(x, "w1;~");
            Check.same("digest with a stop, of " + park, x.digest(), Told.digest(x, "w1;~"));
            x.clearBuffer();
            for (int car = 0; car < x.cars(); car++) {
                if (x.room(car, true) > 0) {
                    x.slide(car, x.room(car, true));
                }
                if (x.room(car, false) > 0) {
                    x.slide(car, -1);
                }
            }
            Check.same("digest with a log, of " + park, x.digest(), Told.digest(x, ""));
        }
    }
}
