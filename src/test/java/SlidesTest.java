/** Promises 5 to 8 and 30 to 35: slides and the log. */
public final class SlidesTest {
    public static void main(String[] args) {
        slide();
        slideErrors();
        slideWithAFullLog();
        takeBack();
        rewind();
        driveOut();
        driveOutErrors();
        driveOutNearTheEndOfTheLog();
        looksAtTheLog();
        fuel();
        theLogIsEmptyBehindCarsAndWalls();
        Check.end("SlidesTest");
    }

    private static void slide() {
        CarTangos x = Parks.of("h2.0*2;v4.1*3");
        Check.same("by 1", x.slide(0, 1), 1);
        Check.same("by -1", x.slide(0, -1), 0);
        Check.same("by 2", x.slide(0, 2), 2);
        Check.same("down", x.slide(1, 1), 2);
        Check.same("up by 2", x.slide(1, -2), 0);
        Check.same("the log", Parks.logOf(x), "0+1 0-1 0+2 1+1 1-2");
        Check.same("the cars", Parks.carsOf(x), "h2.2*2 v4.0*3");
        Check.same("saved", x.savedStates(), 5);
        Check.same("undo", x.undo(), 4);
        Check.same("undone, also in the log", Parks.sight(x), "h2.2*2 v4.2*3||0+1 0-1 0+2 1+1|no stop");
        CarTangos wide = Parks.of("h2.0*2");
        Check.same("by 3", wide.slide(0, 3), 3);
        Check.same("by -3", wide.slide(0, -3), 0);
    }

    private static void slideErrors() {
        CarTangos x = Parks.of("h2.1*2;v4.1*3;w10");
        Check.state("over a wall", () -> x.slide(0, -1));
        Check.state("over the edge, behind a wall", () -> x.slide(0, -2));
        Check.state("over a car", () -> x.slide(0, 2));
        Check.state("out of the lane", () -> x.slide(1, 2));
        Check.state("out of the lane, back", () -> x.slide(1, -3));
        Check.state("through a car is not possible", () -> x.slide(0, 3));
        for (int off : new int[] {0, 4, -4, Integer.MIN_VALUE, Integer.MAX_VALUE}) {
            Check.argument("by " + off, () -> x.slide(0, off));
            Check.index("a car goes ahead of by " + off, () -> x.slide(2, off));
        }
        for (int car : new int[] {-1, 2, 5, 6, Integer.MIN_VALUE, Integer.MAX_VALUE}) {
            Check.index("car " + car, () -> x.slide(car, 1));
        }
        Check.same("nothing changed", Parks.sight(x), "h2.1*2 v4.1*3|w10||no stop");
        Check.same("nothing saved", x.savedStates(), 3);
        Check.index("no cars", () -> new CarTangos().slide(0, 1));
        CarTangos jump = Parks.of("h2.0*2;v2.1*2");
        Check.state("never over a car to free cells", () -> jump.slide(0, 3));
    }

    private static void slideWithAFullLog() {
        CarTangos x = Parks.of("h2.0*2");
        Parks.fillLog(x, 59);
        Check.same("the 60th", x.slide(0, -1), 0);
        Check.same("60", x.logged(), 60);
        Check.state("a 61st", () -> x.slide(0, 1));
        Check.argument("an argument goes ahead of a full log", () -> x.slide(0, 0));
        Check.index("a car goes ahead of a full log", () -> x.slide(1, 0));
        x.takeBack();
        Check.same("room for one again", x.slide(0, -1) + " " + x.logged(), "0 60");
    }

    private static void takeBack() {
        CarTangos x = Parks.of("h2.0*2;v4.1*3");
        Check.state("an empty log", x::takeBack);
        Check.same("nothing saved", x.savedStates(), 2);
        x.slide(1, -1);
        x.slide(0, 2);
        x.slide(1, 1);
        Check.same("the latest car", x.takeBack(), 1);
        Check.same("is back, and out of the log", Parks.sight(x), "h2.2*2 v4.0*3||1-1 0+2|no stop");
        Check.same("then the red one", x.takeBack(), 0);
        Check.same("undoable", x.undo() + " " + Parks.sight(x), "4 h2.2*2 v4.0*3||1-1 0+2|no stop");
        x.takeBack();
        Check.same("then the other", x.takeBack(), 1);
        Check.same("as at first", Parks.sight(x), "h2.0*2 v4.1*3|||no stop");
        Check.state("an empty log again", x::takeBack);
    }

    private static void rewind() {
        CarTangos x = Parks.of("h2.0*2;v4.1*3");
        Check.same("none", x.rewind(), 0);
        Check.same("saved all the same", x.savedStates(), 3);
        x.slide(0, 1);
        x.slide(0, 1);
        x.slide(1, -1);
        Check.same("all", x.rewind(), 3);
        Check.same("as at first", Parks.sight(x), "h2.0*2 v4.1*3|||no stop");
        x.undo();
        Check.same("undone as one call", Parks.sight(x), "h2.2*2 v4.0*3||0+1 0+1 1-1|no stop");
        CarTangos full = Parks.of("h2.0*2");
        Parks.fillLog(full, 60);
        Check.same("60", full.rewind() + " " + full.logged(), "60 0");
    }

    private static void driveOut() {
        CarTangos x = Parks.of(Parks.ONE_IN_THE_WAY);
        Check.same("two slides", x.driveOut(), 2);
        Check.same("the first plan: the least change", Parks.sight(x), "h2.3*2 v3.0*2||1-1 0+3|no stop");
        Check.same("already out", x.driveOut(), 0);
        Check.same("the log stays", x.logged(), 2);
        Check.same("saved also then", x.savedStates(), 4);
        x.undo();
        x.undo();
        Check.same("undone as one call", Parks.sight(x), "h2.0*2 v3.1*2|||no stop");
        x.slide(0, 1);
        x.driveOut();
        Check.same("behind what was logged", Parks.logOf(x), "0+1 1-1 0+2");
        CarTangos lowest = Parks.of("h2.0*2;v4.1*2;v3.1*2");
        lowest.driveOut();
        Check.same("the lowest car first", Parks.logOf(lowest), "1-1 2-1 0+3");
        CarTangos far = Parks.of(Parks.LONG_PLAN);
        Check.same("eleven", far.driveOut() + " " + far.logged() + " " + far.isOut(), "11 11 true");
    }

    private static void driveOutErrors() {
        CarTangos none = new CarTangos();
        Check.state("no cars", none::driveOut);
        Check.same("nothing saved", none.savedStates(), 0);
        CarTangos never = Parks.of(Parks.NEVER);
        never.slide(0, 1);
        Check.state("no plan", never::driveOut);
        Check.same("nothing changed", Parks.sight(never) + never.savedStates(), "h2.1*2 v3.1*3||0+1|no stop3");
        Check.state("a wall ahead", Parks.of("h2.0*2;w14")::driveOut);
    }

    private static void driveOutNearTheEndOfTheLog() {
        CarTangos x = Parks.of(Parks.ONE_IN_THE_WAY);
        Parks.fillLog(x, 58);
        Check.same("58 and 2", x.driveOut() + " " + x.logged(), "2 60");
        Check.same("none to make at 60", x.driveOut() + " " + x.logged(), "0 60");
        x.undo();
        x.undo();
        Check.same("58 again", x.logged(), 58);
        x.slide(0, 1);
        Check.state("59 and 2", x::driveOut);
        Check.same("nothing changed", Parks.carsOf(x) + " " + x.logged(), "h2.1*2 v3.1*2 59");
    }

    private static void looksAtTheLog() {
        CarTangos x = Parks.of("h2.0*2;v4.1*3");
        Check.same("empty", x.logged(), 0);
        Check.index("no slide 0", () -> x.carOfSlide(0));
        Check.index("no change 0", () -> x.changeBySlide(0));
        x.slide(1, -1);
        x.slide(0, 2);
        x.slide(0, -1);
        Check.same("three", x.logged(), 3);
        Check.same("cars", "" + x.carOfSlide(0) + x.carOfSlide(1) + x.carOfSlide(2), "100");
        Check.same("changes", x.changeBySlide(0) + " " + x.changeBySlide(1) + " " + x.changeBySlide(2), "-1 2 -1");
        x.takeBack();
        for (int slide : new int[] {-1, 2, 60, Integer.MIN_VALUE, Integer.MAX_VALUE}) {
            Check.index("carOfSlide " + slide, () -> x.carOfSlide(slide));
            Check.index("changeBySlide " + slide, () -> x.changeBySlide(slide));
        }
        x.rewind();
        Parks.fillLog(x, 60);
        Check.same("the 60th", x.carOfSlide(59) + " " + x.changeBySlide(59), "0 -1");
        Check.index("no 61st", () -> x.carOfSlide(60));
    }

    private static void fuel() {
        CarTangos x = Parks.of("h2.0*2;v4.1*3;h0.0*3");
        Check.same("none yet", x.fuel() + " " + x.fuelByCars() + " " + x.stepsOf(0), "0 0 0");
        x.slide(0, 2);
        x.slide(1, -1);
        x.slide(0, -1);
        x.slide(1, 2);
        Check.same("steps", x.stepsOf(0) + " " + x.stepsOf(1) + " " + x.stepsOf(2), "3 3 0");
        Check.same("fuel", x.fuel(), 3 * 2 + 3 * 3);
        Check.same("by cars", x.fuelByCars(), 15);
        x.takeBack();
        Check.same("taken back", x.fuel() + " " + x.fuelByCars() + " " + x.stepsOf(1), "9 9 1");
        for (int car : new int[] {-1, 3, 6, Integer.MIN_VALUE, Integer.MAX_VALUE}) {
            Check.index("stepsOf " + car, () -> x.stepsOf(car));
        }
    }

    private static void theLogIsEmptyBehindCarsAndWalls() {
        CarTangos x = Parks.of("h2.0*2;v4.3*2");
        x.slide(0, 1);
        x.toggleWall(0);
        Check.same("a wall came", Parks.sight(x), "h2.1*2 v4.3*2|w0||no stop");
        x.slide(0, 1);
        x.toggleWall(0);
        Check.same("a wall went", Parks.sight(x), "h2.2*2 v4.3*2|||no stop");
        x.slide(0, 1);
        x.addCar(0, 0, 2);
        Check.same("a car came", Parks.sight(x), "h2.3*2 v4.3*2 h0.0*2|||no stop");
        x.slide(0, -1);
        x.dropLast();
        Check.same("a car went", Parks.sight(x), "h2.2*2 v4.3*2|||no stop");
        x.slide(0, -1);
        Check.index("a wall that can't come", () -> x.toggleWall(25));
        Check.state("a car that can't come", () -> x.addCar(2, 0, 2));
        Check.same("leave the log", Parks.logOf(x), "0-1");
        Check.same("undo brings it back", x.undo() + x.undo() + " " + Parks.logOf(x), "7 0-1");
    }
}
