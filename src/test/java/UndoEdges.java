/** The edges that promises 15 to 18 name: undo, the snapshot, saved states; and the terms that they have. */
final class UndoEdges {
    private UndoEdges() {
    }

    // ---- promise 15: undo

    static void undo() {
        Check.promise(15, "Restores the latest saved state, and drops it.");
        CarTangos x = Parks.of("h2.0*2");
        x.slide(0, 1);
        x.toggleWall(0);
        x.slide(0, 2);
        Check.same("four are saved", x.savedStates(), 4);
        String[] dues = {"h2.1*2|w0||no stop", "h2.1*2||0+1|no stop", "h2.0*2|||no stop", "|||no stop"};
        for (int i = 0; i < dues.length; i++) {
            x.undo();
            Check.same("undone " + (i + 1), Parks.sight(x), dues[i]);
        }
        CarTangos y = Parks.of("h2.0*2");
        y.slide(0, 1);
        y.undo();
        y.slide(0, 2);
        y.undo();
        Check.same("an undone state is not saved", Parks.sight(y) + y.savedStates(), "h2.0*2|||no stop1");
    }

    static void undoAnswers() {
        Check.promise(15, "Returns how many saved states are left.");
        for (int calls = 1; calls <= 7; calls++) {
            CarTangos x = new CarTangos();
            for (int i = 0; i < calls; i++) {
                x.toggleWall(0);
            }
            for (int left = Math.min(calls, 5) - 1; left >= 0; left--) {
                Check.same("of " + calls, x.undo() + " " + x.savedStates(), left + " " + left);
            }
        }
    }

    static void undoOfNone() {
        Check.promise(15, "there is none");
        Check.state("a new object", new CarTangos()::undo);
        CarTangos x = Parks.of("h2.0*2");
        x.undo();
        Check.state("behind the only one", x::undo);
        Check.same("the park stays", Parks.sight(x), "|||no stop");
        CarTangos many = Edge.logged("h2.0*2", 20);
        for (int left = 4; left >= 0; left--) {
            Check.same("the latest five", many.undo(), left);
        }
        Check.state("not a sixth", many::undo);
        Check.same("five are undone", many.logged(), 15);
        Edge.refused("IllegalStateException", "changes nothing", () -> {
            CarTangos y = Edge.logged("h2.0*2", 7);
            y.keep();
            for (int i = 0; i < 5; i++) {
                y.undo();
            }
            y.append('b');
            return y;
        }, CarTangos::undo);
        CarTangos refused = new CarTangos();
        Check.state("a refused call", refused::dropLast);
        Check.state("saves none", refused::undo);
        refused.keep();
        refused.append('b');
        refused.clearBuffer();
        refused.firstError();
        refused.digest();
        Check.state("nor do calls that are not undoable", refused::undo);
    }

    // ---- promise 16: keep

    static void keep() {
        Check.promise(16, "Takes a snapshot, in place of the one before.");
        CarTangos x = Parks.of("h2.0*2");
        x.keep();
        x.slide(0, 1);
        x.keep();
        x.slide(0, 1);
        x.restore();
        Check.same("the later one", Parks.sight(x), "h2.1*2||0+1|no stop");
        x.dropLast();
        x.keep();
        x.addCar(4, 0, 2);
        x.restore();
        Check.same("that of an empty park", Parks.sight(x), "|||no stop");
        Check.same("it is not undoable", Parks.of("h2.0*2").keep() + " " + saved(Parks.of("h2.0*2")), "1 1");
    }

    private static int saved(CarTangos x) {
        x.keep();
        return x.savedStates();
    }

    static void keepAnswers() {
        Check.promise(16, "Returns the number of cars.");
        CarTangos x = Parks.of(Parks.SIX);
        for (int cars = 6; cars >= 0; cars--) {
            Check.same("of " + cars, x.keep(), cars);
            if (cars > 0) {
                x.dropLast();
            }
        }
        Check.same("restored, there are none", x.restore(), 0);
    }

    // ---- promise 17: restore

    static void restore() {
        Check.promise(17, "Restores the state of the snapshot, which stays. Undoable.");
        CarTangos x = Parks.of("w7;h2.0*2");
        Edge.work(x, "0+1;0+3");
        x.keep();
        String due = Parks.sight(x);
        Check.same("a log and a stop", due, "h2.1*2|w7|0+1|stop 1");
        for (int i = 0; i < 3; i++) {
            x.slide(0, 1);
            x.toggleWall(7);
            x.addCar(4, 0, 2);
            Edge.work(x, "d");
            Edge.undone("restored " + i, x, CarTangos::restore, 1);
            x.restore();
            Check.same("the snapshot stays " + i, Parks.sight(x), due);
            x.takeBack();
        }
    }

    static void restoreOfTheSame() {
        Check.promise(17, "Undoable.");
        CarTangos x = Parks.of("h2.0*2");
        x.keep();
        Edge.undone("nothing is changed", x, CarTangos::restore, 1);
        CarTangos none = new CarTangos();
        none.keep();
        Edge.undone("an empty park", none, CarTangos::restore, 0);
    }

    static void restoreAnswers() {
        Check.promise(17, "Returns the number of cars then.");
        CarTangos x = Parks.of("h2.0*2");
        x.keep();
        x.addCar(4, 0, 2);
        Check.same("one, not two", x.restore(), 1);
        CarTangos six = Parks.of(Parks.SIX);
        six.keep();
        six.dropLast();
        six.dropLast();
        Check.same("six, not four", six.restore(), 6);
    }

    static void restoreOfNone() {
        Check.promise(17, "there is no snapshot");
        Check.state("a new object", new CarTangos()::restore);
        Edge.refused("IllegalStateException", "changes nothing", () -> Edge.logged(Parks.ONE_IN_THE_WAY, 7), CarTangos::restore);
        CarTangos x = Parks.of("h2.0*2");
        x.keep();
        x.undo();
        Check.same("undo leaves it", x.restore(), 1);
    }

    // ---- promise 18: savedStates

    static void savedStates() {
        Check.promise(18, "Returns the number of saved states.");
        CarTangos x = new CarTangos();
        Check.same("none", x.savedStates(), 0);
        for (int i = 1; i <= 8; i++) {
            x.toggleWall(0);
            Check.same("up to 5", x.savedStates(), Math.min(i, 5));
        }
        Check.state("a refused call", x::takeBack);
        Check.same("5 are left", x.savedStates(), 5);
        for (int left = 4; left >= 0; left--) {
            x.undo();
            Check.same("one less", x.savedStates(), left);
        }
        Check.state("a refused undo", x::undo);
        Check.same("none is left", x.savedStates(), 0);
        x.keep();
        x.restore();
        Check.same("saved behind that", x.savedStates(), 1);
    }

    // ---- the terms that undo and the snapshot have

    static void undoableCalls() {
        Check.term(15, "Each method that is marked \"undoable\" and does not throw an exception saves the state from before it"
                + " (also if it changes nothing):");
        Edge.undone("rewind of nothing", Parks.of("h2.0*2"), CarTangos::rewind, 0);
        Edge.undone("driveOut, out already", Parks.of("h2.3*2"), CarTangos::driveOut, 0);
        Edge.undone("driveOut, out already, and a full log", outWithFullLog(), CarTangos::driveOut, 0);
        Edge.undone("work that does nothing", Parks.of("h2.0*2"), x -> Edge.work(x, "b"), 0);
        Edge.undone("work that changes nothing", Parks.of("h2.3*2"), x -> Edge.work(x, "d;d"), 2);
        CarTangos x = Parks.of("h2.0*2");
        x.keep();
        Edge.undone("restore of the same", x, CarTangos::restore, 1);
    }

    private static CarTangos outWithFullLog() {
        CarTangos x = Parks.of("h2.3*2");
        for (int i = 0; i < 60; i++) {
            x.slide(0, i % 2 == 0 ? -1 : 1);
        }
        return x;
    }

    static void refusedCallsSaveNothing() {
        Check.term(15, "and does not throw an exception saves the state");
        CarTangos x = Parks.of(Parks.NEVER);
        Check.index("addCar", () -> x.addCar(-1, 0, 2));
        Check.argument("addCar", () -> x.addCar(0, 0, 5));
        Check.state("addCar", () -> x.addCar(2, 0, 2));
        Check.index("toggleWall", () -> x.toggleWall(-1));
        Check.state("toggleWall", () -> x.toggleWall(10));
        Check.index("slide", () -> x.slide(2, 1));
        Check.argument("slide", () -> x.slide(0, 0));
        Check.state("slide", () -> x.slide(0, -1));
        Check.state("takeBack", x::takeBack);
        Check.state("driveOut", x::driveOut);
        Check.argument("work", x::work);
        Check.state("restore", x::restore);
        Check.same("two are saved, as before", x.savedStates(), 2);
    }

    static void savedIsAllButTheBuffer() {
        Check.term(15, "all, also the log and the latest stop, but the buffer, the saved states and the snapshot");
        CarTangos x = Parks.of("w7;h2.0*2;v4.2*3");
        Edge.work(x, "0+1;b;b");
        x.slide(1, -2);
        x.slide(0, 1);
        String before = Parks.sight(x);
        Check.same("all is there", before, "h2.1*2 v4.0*3|w7|1-2 0+1|stop 2");
        x.keep();
        x.dropLast();
        x.dropLast();
        x.toggleWall(7);
        Edge.work(x, "h1.0*3");
        x.keep();
        Parks.type(x, "abc");
        for (int i = 0; i < 4; i++) {
            x.undo();
        }
        Check.same("all is back", Parks.sight(x), before);
        Check.same("the buffer is not", x.clearBuffer(), 3);
        Check.same("the saved states are not", x.savedStates(), 1);
        Check.same("the snapshot is not", x.restore() + Parks.sight(x), "1h1.0*3|||no stop");
    }

    static void savedIsTheSixthCarToo() {
        Check.term(15, "all, also the log");
        CarTangos x = Parks.of(Parks.SIX);
        String before = Parks.sight(x);
        x.dropLast();
        x.addCar(3, 2, 3);
        String other = Parks.sight(x);
        x.keep();
        x.dropLast();
        x.addCar(9, 3, 2);
        Check.same("another sixth one", Parks.carsOf(x).endsWith("v3.1*2 v4.3*2"), true);
        x.restore();
        Check.same("restored", Parks.sight(x), other);
        for (int i = 0; i < 5; i++) {
            x.undo();
        }
        Check.same("undone", Parks.sight(x), before);
    }

    static void savedIsTheSixtiethSlideToo() {
        Check.term(15, "also the log");
        CarTangos x = Edge.logged("h2.0*2;v4.3*2", 59);
        x.slide(0, -1);
        String due = "60 0-1";
        Check.same("the 60th", lastOf(x), due);
        x.keep();
        x.takeBack();
        x.slide(1, -3);
        Check.same("another one", lastOf(x), "60 1-3");
        x.restore();
        Check.same("restored", lastOf(x), due);
        x.undo();
        Check.same("restoring is undone", lastOf(x), "60 1-3");
        x.undo();
        x.undo();
        Check.same("the other one is undone", lastOf(x), due);
    }

    private static String lastOf(CarTangos x) {
        int last = x.logged() - 1;
        return x.logged() + " " + x.carOfSlide(last) + x.changeBySlide(last);
    }

    static void snapshotHasTheSame() {
        Check.term(17, "(a snapshot has the same).");
        CarTangos x = Parks.of("w7;h2.0*2;v4.2*3");
        Edge.work(x, "0+1;b;b");
        x.slide(1, -2);
        x.slide(0, 1);
        String before = Parks.sight(x);
        Parks.type(x, "xy");
        x.keep();
        x.clearBuffer();
        x.dropLast();
        x.dropLast();
        x.toggleWall(7);
        Edge.work(x, "h1.0*3");
        Parks.type(x, "abc");
        Check.same("restored", x.restore() + Parks.sight(x), 2 + before);
        Check.same("the buffer is not", x.clearBuffer(), 3);
        Check.same("the saved states are not", x.savedStates() + " " + x.undo() + Parks.sight(x), "5 4h1.0*3|||no stop");
        CarTangos none = new CarTangos();
        none.keep();
        Edge.work(none, "b");
        Check.same("a stop behind the snapshot", none.restore() + Parks.sight(none), "0|||no stop");
    }

    static void atMostFive() {
        Check.term(18, "At most 5 states are saved;");
        CarTangos x = new CarTangos();
        for (int i = 0; i < 30; i++) {
            x.toggleWall(i % 25);
            x.toggleWall(i % 25);
            Check.same("saved", x.savedStates(), Math.min(5, 2 * i + 2));
        }
        CarTangos five = Edge.logged("h2.0*2", 4);
        Check.same("five", five.savedStates(), 5);
        five.undo();
        five.slide(0, -1);
        Check.same("five again", five.savedStates(), 5);
        Check.same("none was dropped", undoAll(five), "h2.1*2,h2.0*2,h2.1*2,h2.0*2,,");
    }

    static void theOldestGoesFirst() {
        Check.term(18, "the oldest one is dropped first.");
        CarTangos six = Edge.logged("h2.0*2", 5);
        Check.same("the empty park was dropped", undoAll(six), "h2.0*2,h2.1*2,h2.0*2,h2.1*2,h2.0*2,");
        CarTangos seven = Edge.logged("h2.0*2", 6);
        Check.same("and the first place", undoAll(seven), "h2.1*2,h2.0*2,h2.1*2,h2.0*2,h2.1*2,");
        CarTangos mixed = Parks.of("h2.0*2");
        for (int by : new int[] {1, 1, 1, -3, 2, -1}) {
            mixed.slide(0, by);
        }
        mixed.undo();
        mixed.undo();
        mixed.slide(0, 3);
        mixed.slide(0, -2);
        mixed.slide(0, 1);
        Check.same("behind undos", undoAll(mixed), "h2.1*2,h2.3*2,h2.0*2,h2.3*2,h2.2*2,");
    }

    private static String undoAll(CarTangos x) {
        StringBuilder states = new StringBuilder();
        for (int i = 0; i < 9 && x.savedStates() > 0; i++) {
            x.undo();
            states.append(Parks.carsOf(x)).append(',');
        }
        return states.toString();
    }
}
