/** Promises 1 to 4 and 19 to 29: a new object, cars and walls, looks at the park. */
public final class ParkTest {
    public static void main(String[] args) {
        newObject();
        addCar();
        addCarInTheRightOrderOfErrors();
        addCarToAFullPark();
        dropLast();
        toggleWall();
        toggleWallErrors();
        looksAtCars();
        looksAtCells();
        isOut();
        rooms();
        roomsBesideWallsAndCars();
        Check.end("ParkTest");
    }

    private static void newObject() {
        CarTangos x = new CarTangos();
        Check.same("new: sight", Parks.sight(x), "|||no stop");
        Check.same("new: cars", x.cars(), 0);
        Check.same("new: walls", x.walls(), 0);
        Check.same("new: free", x.freeCells(), 25);
        Check.same("new: logged", x.logged(), 0);
        Check.same("new: saved", x.savedStates(), 0);
        Check.same("new: buffer", x.clearBuffer(), 0);
        Check.state("new: no snapshot", x::restore);
        Check.state("new: nothing to undo", x::undo);
        CarTangos other = new CarTangos();
        other.addCar(0, 0, 2);
        other.keep();
        other.append('h');
        Check.same("an object knows nothing of another", x.cars() + x.clearBuffer() + x.savedStates(), 0);
        Check.state("nor of its snapshot", x::restore);
    }

    private static void addCar() {
        CarTangos x = new CarTangos();
        Check.same("red", x.addCar(2, 1, 2), 0);
        Check.same("first column", x.addCar(5, 0, 2), 1);
        Check.same("last column, at its end", x.addCar(9, 2, 3), 2);
        Check.same("last row", x.addCar(4, 0, 2), 3);
        Check.same("second in a lane", x.addCar(4, 2, 2), 4);
        Check.same("first row, at its end", x.addCar(0, 3, 2), 5);
        Check.same("picture", Parks.picture(x), "1..55/1..../.00.2/....2/33442");
        Check.same("sight", Parks.sight(x), "h2.1*2 v0.0*2 v4.2*3 h4.0*2 h4.2*2 h0.3*2|||no stop");
        Check.same("each is saved, up to 5", x.savedStates(), 5);
        Check.same("undoable", x.undo(), 4);
        Check.same("undone", x.cars(), 5);
        Check.same("a red one of 3 at the end", new CarTangos().addCar(4, 2, 3), 0);
        CarTangos behindWall = Parks.of("w2;h0.0*2");
        Check.same("beside a wall", Parks.picture(behindWall), "00#../...../...../...../.....");
        Check.same("on the other side", behindWall.addCar(0, 3, 2), 1);
    }

    private static void addCarInTheRightOrderOfErrors() {
        CarTangos x = new CarTangos();
        Check.state("red in a column", () -> x.addCar(5, 0, 2));
        Check.state("red in the last column", () -> x.addCar(9, 3, 2));
        for (int off : Parks.FAR_OFF) {
            Check.index("lane " + off, () -> x.addCar(off, 0, 2));
            Check.index("lane, place and length " + off, () -> x.addCar(off, off, off));
            Check.argument("place " + off, () -> x.addCar(0, off, 2));
            Check.argument("length " + off, () -> x.addCar(0, 0, off));
            Check.argument("place and length " + off, () -> x.addCar(5, off, off));
        }
        Check.index("lane -1", () -> x.addCar(-1, -1, 9));
        Check.index("lane 10", () -> x.addCar(10, 0, 2));
        for (int length : new int[] {-1, 0, 1, 4, 5}) {
            Check.argument("length " + length, () -> x.addCar(0, 0, length));
        }
        Check.argument("place -1", () -> x.addCar(0, -1, 2));
        Check.argument("place -1 of 3", () -> x.addCar(3, -1, 3));
        Check.argument("2 at 4", () -> x.addCar(0, 4, 2));
        Check.argument("3 at 3", () -> x.addCar(0, 3, 3));
        Check.argument("2 at 4 of a column", () -> x.addCar(6, 4, 2));
        x.addCar(0, 3, 2);
        x.toggleWall(12);
        Check.state("on a car's last cell", () -> x.addCar(9, 0, 3));
        Check.state("on a car's first cell", () -> x.addCar(8, 0, 2));
        Check.state("with the last cell on a wall", () -> x.addCar(2, 0, 3));
        Check.state("with the middle cell on a wall", () -> x.addCar(7, 1, 3));
        Check.state("with the first cell on a wall", () -> x.addCar(7, 2, 2));
        Check.argument("arguments go ahead of cells", () -> x.addCar(7, 2, 4));
        Check.same("nothing came, nothing was saved", Parks.sight(x) + x.savedStates(), "h0.3*2|w12||no stop2");
    }

    private static void addCarToAFullPark() {
        CarTangos x = Parks.of("h0.0*2;v0.1*2;v1.1*2;v2.1*2;v3.1*2;v4.1*2");
        Check.same("six", x.cars(), 6);
        Check.state("a seventh", () -> x.addCar(4, 0, 2));
        Check.index("a lane goes ahead", () -> x.addCar(10, 0, 2));
        Check.argument("an argument goes ahead", () -> x.addCar(4, 0, 1));
        x.dropLast();
        Check.same("room again", x.addCar(4, 0, 2), 5);
    }

    private static void dropLast() {
        CarTangos x = new CarTangos();
        Check.state("no car", x::dropLast);
        Check.same("nothing saved", x.savedStates(), 0);
        x.addCar(2, 0, 2);
        x.addCar(7, 0, 2);
        x.slide(0, 1);
        Check.same("one left", x.dropLast(), 1);
        Check.same("the latest went, and so did the log", Parks.sight(x), "h2.1*2|||no stop");
        Check.same("none left", x.dropLast(), 0);
        Check.state("none to go", x::dropLast);
        Check.state("the next is the red one", () -> x.addCar(5, 0, 2));
        x.undo();
        x.undo();
        Check.same("undone twice", Parks.sight(x), "h2.1*2 v2.0*2||0+1|no stop");
    }

    private static void toggleWall() {
        CarTangos x = new CarTangos();
        Check.same("comes", x.toggleWall(0), true);
        Check.same("comes to the last cell", x.toggleWall(24), true);
        Check.same("goes", x.toggleWall(0), false);
        Check.same("comes again", x.toggleWall(0), true);
        Check.same("walls", Parks.wallsOf(x) + " " + x.walls() + " " + x.freeCells(), "w0w24 2 23");
        Check.same("saved", x.savedStates(), 4);
        x.undo();
        Check.same("undone", Parks.wallsOf(x), "w24");
        x.undo();
        x.undo();
        Check.same("undone again", Parks.wallsOf(x), "w0");
    }

    private static void toggleWallErrors() {
        CarTangos x = Parks.of("w0;w6;w12;w18;h0.1*2");
        Check.same("four", x.walls(), 4);
        Check.state("a fifth", () -> x.toggleWall(24));
        Check.state("on a car, with four", () -> x.toggleWall(1));
        Check.same("one goes at four", x.toggleWall(12), false);
        Check.state("on the red car", () -> x.toggleWall(2));
        Check.state("on its first cell", () -> x.toggleWall(1));
        Check.same("the fourth", x.toggleWall(3), true);
        Check.state("a fifth again", () -> x.toggleWall(4));
        Check.index("-1", () -> x.toggleWall(-1));
        Check.index("25", () -> x.toggleWall(25));
        for (int off : Parks.FAR_OFF) {
            Check.index("cell " + off, () -> x.toggleWall(off));
        }
        Check.index("32 is not 0", () -> x.toggleWall(32));
        Check.same("walls", Parks.wallsOf(x), "w0w3w6w18");
    }

    private static void looksAtCars() {
        CarTangos x = Parks.of("h3.1*3;v4.3*2");
        Check.same("cars", x.cars(), 2);
        Check.same("lanes", x.laneOf(0) + " " + x.laneOf(1), "3 9");
        Check.same("places", x.placeOf(0) + " " + x.placeOf(1), "1 3");
        Check.same("lengths", x.lengthOf(0) + " " + x.lengthOf(1), "3 2");
        x.slide(0, -1);
        Check.same("behind a slide", Parks.carsOf(x), "h3.0*3 v4.3*2");
        for (int car : new int[] {-1, 2, 6, Integer.MIN_VALUE, Integer.MAX_VALUE}) {
            Check.index("laneOf " + car, () -> x.laneOf(car));
            Check.index("placeOf " + car, () -> x.placeOf(car));
            Check.index("lengthOf " + car, () -> x.lengthOf(car));
        }
        Check.same("looks save nothing", x.savedStates(), 3);
        x.dropLast();
        Check.index("a car that went", () -> x.laneOf(1));
    }

    private static void looksAtCells() {
        CarTangos x = Parks.of("h3.1*3;v4.2*2;w0;w23");
        Check.same("picture", Parks.picture(x), "#..../...../....1/.0001/...#.");
        Check.same("walls", x.walls(), 2);
        Check.same("free", x.freeCells(), 25 - 3 - 2 - 2);
        Check.same("a wall is no car", x.carOn(0), -1);
        Check.same("a car is no wall", x.isWall(16), false);
        Check.same("isWall", x.isWall(23), true);
        for (int cell : new int[] {-1, 25, 32, 57, Integer.MIN_VALUE, Integer.MAX_VALUE}) {
            Check.index("carOn " + cell, () -> x.carOn(cell));
            Check.index("isWall " + cell, () -> x.isWall(cell));
        }
        x.slide(0, -1);
        Check.same("picture behind a slide", Parks.picture(x), "#..../...../....1/000.1/...#.");
        x.dropLast();
        Check.same("picture without a car that went", Parks.picture(x), "#..../...../...../000../...#.");
        Check.same("free without it", x.freeCells(), 25 - 3 - 2);
    }

    private static void isOut() {
        Check.same("no car", new CarTangos().isOut(), false);
        CarTangos x = Parks.of("h1.2*2;v4.0*2;h4.3*2");
        Check.same("others don't count", x.isOut(), false);
        x.slide(1, 2);
        Check.same("not yet", x.isOut(), false);
        x.slide(0, 1);
        Check.same("out", x.isOut(), true);
        x.slide(0, -3);
        Check.same("back in", x.isOut(), false);
        x.slide(0, 3);
        x.dropLast();
        x.dropLast();
        x.dropLast();
        Check.same("gone", x.isOut(), false);
        Check.same("3 long", Parks.of("h0.2*3").isOut(), true);
        Check.same("3 long, not yet", Parks.of("h0.1*3").isOut(), false);
    }

    private static void rooms() {
        CarTangos x = Parks.of("h2.0*2");
        Check.same("forwards, 3", x.room(0, true), 3);
        Check.same("back, at the edge", x.room(0, false), 0);
        Check.same("slides", x.possibleSlides(), 3);
        x.slide(0, 1);
        Check.same("in between", x.room(0, true) + " " + x.room(0, false) + " " + x.possibleSlides(), "2 1 3");
        x.slide(0, 2);
        Check.same("at the end", x.room(0, true) + " " + x.room(0, false) + " " + x.possibleSlides(), "0 3 3");
        CarTangos three = Parks.of("h0.0*3;v4.1*3");
        Check.same("3 long", three.room(0, true) + " " + three.room(0, false), "2 0");
        Check.same("in a column", three.room(1, true) + " " + three.room(1, false), "1 1");
        Check.same("all slides", three.possibleSlides(), 4);
        for (int car : new int[] {-1, 2, 6, Integer.MIN_VALUE, Integer.MAX_VALUE}) {
            Check.index("room forwards " + car, () -> three.room(car, true));
            Check.index("room back " + car, () -> three.room(car, false));
        }
        Check.index("no cars", () -> new CarTangos().room(0, true));
        Check.same("no slides without cars", new CarTangos().possibleSlides(), 0);
    }

    private static void roomsBesideWallsAndCars() {
        CarTangos x = Parks.of("h0.2*2;w0;v4.0*2;v1.3*2");
        Check.same("between a wall and a car", x.room(0, true) + " " + x.room(0, false), "0 1");
        Check.same("down to the edge", x.room(1, true) + " " + x.room(1, false), "3 0");
        Check.same("up, stopped by none", x.room(2, false) + " " + x.room(2, true), "3 0");
        x.slide(0, -1);
        Check.same("up, stopped by the red one", x.room(2, false), 2);
        x.toggleWall(11);
        Check.same("up, stopped by a wall", x.room(2, false), 0);
        CarTangos first = Parks.of("h4.0*2;v0.2*2;w1");
        Check.same("in the first column", first.room(1, false) + " " + first.room(1, true), "2 0");
        CarTangos two = Parks.of("h0.0*2;h0.3*2");
        Check.same("in one lane", two.room(0, true) + " " + two.room(1, false) + " " + two.possibleSlides(), "1 1 2");
    }
}
