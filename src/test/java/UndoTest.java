import java.util.concurrent.Callable;

/** Promises 15 to 18: undo, the snapshot, saved states; and that a call that throws changes nothing. */
public final class UndoTest {
    public static void main(String[] args) {
        undo();
        atMostFive();
        eachUndoableCallSavesOne();
        otherCallsSaveNothing();
        snapshot();
        snapshotHoldsAll();
        snapshotStays();
        undoLeavesTheSnapshotAndTheBuffer();
        callsThatThrowChangeNothing();
        Check.end("UndoTest");
    }

    private static void undo() {
        CarTangos x = new CarTangos();
        Check.state("nothing saved", x::undo);
        x.addCar(2, 0, 2);
        x.slide(0, 1);
        Check.same("one left", x.undo(), 1);
        Check.same("the slide is undone", Parks.sight(x), "h2.0*2|||no stop");
        Check.same("none left", x.undo(), 0);
        Check.same("the car is undone", Parks.sight(x), "|||no stop");
        Check.state("nothing left", x::undo);
        x.addCar(1, 1, 2);
        Check.same("saved behind an undo", x.savedStates() + " " + x.undo(), "1 0");
    }

    private static void atMostFive() {
        CarTangos x = Parks.of("h2.0*2");
        for (int i = 0; i < 9; i++) {
            x.slide(0, i % 2 == 0 ? 2 : -2);
            Check.same("saved", x.savedStates(), Math.min(5, i + 2));
        }
        for (int left = 4; left >= 0; left--) {
            Check.same("left", x.undo(), left);
            Check.same("the state before it", x.logged() + " " + x.placeOf(0), (left + 4) + " " + (left % 2 == 0 ? 0 : 2));
        }
        Check.state("the oldest ones were dropped", x::undo);
        x.slide(0, 1);
        x.slide(0, 1);
        x.undo();
        Check.same("goes on from there", Parks.logOf(x), "0+2 0-2 0+2 0-2 0+1");
    }

    private static void eachUndoableCallSavesOne() {
        CarTangos x = new CarTangos();
        saves("addCar", x, () -> x.addCar(2, 0, 2));
        saves("slide", x, () -> x.slide(0, 1));
        saves("takeBack", x, x::takeBack);
        saves("rewind", x, x::rewind);
        saves("driveOut", x, x::driveOut);
        CarTangos y = Parks.of("h2.0*2");
        saves("toggleWall", y, () -> y.toggleWall(0));
        saves("dropLast", y, y::dropLast);
        y.keep();
        saves("restore", y, y::restore);
        y.append('b');
        saves("work", y, y::work);
    }

    private static void saves(String name, CarTangos x, Callable<Object> call) {
        int before = x.savedStates();
        String sight = Parks.sight(x);
        Object answer = Check.answer(call);
        Check.same(name + " saves one", x.savedStates(), before + 1);
        Check.same(name + " answers", String.valueOf(answer).startsWith("throws"), false);
        x.undo();
        Check.same(name + " is undone", Parks.sight(x) + x.savedStates(), sight + before);
        Check.same(name + " answers the same again", Check.answer(() -> {
            if (name.equals("work")) {
                x.append('b');
            }
            return call.call();
        }), answer);
    }

    private static void otherCallsSaveNothing() {
        CarTangos x = Parks.of(Parks.ONE_IN_THE_WAY);
        String sight = Parks.sight(x);
        x.keep();
        x.append('h');
        x.firstError();
        x.clearBuffer();
        x.fewestSlides();
        x.fewestSlidesFromEnds();
        x.fewestSteps();
        x.leastFuel();
        x.leastFuelByRounds();
        x.nextCar();
        x.nextChange();
        x.reachable();
        x.reachableOut();
        x.farthest();
        x.arrangements();
        x.fewestBehind(0, 1);
        x.fewestWithoutLast();
        x.fewestWithWall(0);
        x.reachedShare();
        x.digest();
        Check.same("saved", x.savedStates(), 2);
        Check.same("nothing changed", Parks.sight(x), sight);
    }

    private static void snapshot() {
        CarTangos x = new CarTangos();
        Check.state("no snapshot", x::restore);
        Check.same("of no cars", x.keep(), 0);
        x.addCar(2, 0, 2);
        x.addCar(4, 0, 3);
        Check.same("restored", x.restore() + Parks.sight(x), "0|||no stop");
        x.undo();
        Check.same("undoable", Parks.carsOf(x), "h2.0*2 h4.0*3");
        Check.same("in place of the one before", x.keep(), 2);
        x.dropLast();
        Check.same("restored again", x.restore() + Parks.carsOf(x), "2h2.0*2 h4.0*3");
    }

    private static void snapshotHoldsAll() {
        CarTangos x = Parks.of("w7;h2.0*2");
        Parks.type(x, "0+1;0+1;b;0+2;b;b;b");
        Check.same("stops", x.work(), 6);
        x.slide(0, 3);
        x.slide(0, -1);
        String sight = Parks.sight(x);
        Check.same("log and stop are there", sight, "h2.2*2|w7|0+3 0-1|stop 6");
        x.keep();
        x.append('d');
        x.work();
        x.toggleWall(7);
        x.append('v');
        x.restore();
        Check.same("they come back", Parks.sight(x), sight);
        Check.same("the buffer stays", x.clearBuffer(), 1);
        Check.same("saved states stay", x.savedStates(), 5);
        x.takeBack();
        Check.same("the log works on", Parks.sight(x), "h2.3*2|w7|0+3|stop 6");
    }

    private static void snapshotStays() {
        CarTangos x = Parks.of("h2.0*2");
        x.keep();
        x.slide(0, 1);
        x.restore();
        x.slide(0, 2);
        x.slide(0, 1);
        x.addCar(0, 0, 2);
        Check.same("once more", x.restore() + Parks.sight(x), "1h2.0*2|||no stop");
        Check.same("and at once again", x.restore() + Parks.sight(x), "1h2.0*2|||no stop");
        Check.same("saved", x.savedStates(), 5);
    }

    private static void undoLeavesTheSnapshotAndTheBuffer() {
        CarTangos x = new CarTangos();
        x.addCar(2, 0, 2);
        x.keep();
        x.undo();
        Check.same("undone", x.cars(), 0);
        Check.same("the snapshot is still there", x.restore(), 1);
        x.append('h');
        x.undo();
        Check.same("the buffer too", x.clearBuffer(), 1);
    }

    private static void callsThatThrowChangeNothing() {
        CarTangos x = Parks.of("h2.0*2;v3.1*3;w0;w1;w2;w4");
        Parks.type(x, "0+1;1-1;0+3;b");
        x.work();
        Parks.type(x, "w25");
        String sight = Parks.sight(x);
        long digest = x.digest();
        Check.index("addCar", () -> x.addCar(10, 0, 2));
        Check.argument("addCar", () -> x.addCar(0, 0, 1));
        Check.state("addCar", () -> x.addCar(0, 0, 2));
        Check.index("toggleWall", () -> x.toggleWall(25));
        Check.state("toggleWall", () -> x.toggleWall(24));
        Check.index("slide", () -> x.slide(2, 1));
        Check.argument("slide", () -> x.slide(0, 4));
        Check.state("slide", () -> x.slide(0, 3));
        Check.state("driveOut", x::driveOut);
        Check.argument("append", () -> x.append(0));
        Check.argument("work", x::work);
        Check.state("restore", x::restore);
        Check.state("nextCar", x::nextCar);
        Check.state("nextChange", x::nextChange);
        Check.state("fewestBehind", () -> x.fewestBehind(0, 3));
        Check.state("fewestWithWall", () -> x.fewestWithWall(4));
        Check.same("the sight", Parks.sight(x), sight);
        Check.same("the digest", x.digest(), digest);
    }
}
