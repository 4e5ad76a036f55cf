/** The edges that promises 1 to 4 name: a new object, cars that come and go, walls. */
final class ParkEdges {
    private ParkEdges() {
    }

    // ---- promise 1: a new object

    static void newPark() {
        Check.promise(1, "Creates an empty park");
        CarTangos x = new CarTangos();
        Check.same("cars", x.cars(), 0);
        Check.same("walls", x.walls(), 0);
        Check.same("free cells", x.freeCells(), 25);
        Check.same("cells", Parks.picture(x), "...../...../...../...../.....");
        Check.index("car 0", () -> x.laneOf(0));
        CarTangos other = Parks.of("w3;h2.0*2");
        Check.same("beside another object", new CarTangos().cars() + new CarTangos().walls() + other.cars(), 1);
    }

    static void newLog() {
        Check.promise(1, "with an empty log");
        CarTangos x = new CarTangos();
        Check.same("logged", x.logged(), 0);
        Check.index("slide 0", () -> x.carOfSlide(0));
        Check.state("nothing to take back", x::takeBack);
        Check.same("fuel", x.fuel() + x.fuelByCars(), 0);
        Check.same("nothing is saved", x.savedStates(), 0);
        Check.state("nothing to undo", x::undo);
        Check.same("no stop", x.hasStopped(), false);
    }

    static void newSnapshot() {
        Check.promise(1, "without a snapshot");
        CarTangos other = new CarTangos();
        other.keep();
        CarTangos x = new CarTangos();
        Check.state("at once", x::restore);
        x.addCar(2, 0, 2);
        Check.state("with a car", x::restore);
    }

    static void newBuffer() {
        Check.promise(1, "with an empty buffer");
        Check.same("cleared", new CarTangos().clearBuffer(), 0);
        Check.same("first error", new CarTangos().firstError(), 0);
        Check.argument("works", new CarTangos()::work);
        Check.same("first character", new CarTangos().append('h'), 1);
    }

    // ---- promise 2: addCar

    static void addCar() {
        Check.promise(2, "A car comes. Undoable.");
        Edge.undone("the red one", new CarTangos(), x -> x.addCar(2, 1, 3), 0);
        Edge.undone("the second", Parks.of("h2.0*2"), x -> x.addCar(9, 3, 2), 1);
        Edge.undone("the sixth", Parks.of("h0.0*2;v0.1*2;v1.1*2;v2.1*2;v3.1*2"), x -> x.addCar(9, 1, 2), 5);
        Edge.undone("with a log and a stop", Edge.busy("h2.0*2"), x -> x.addCar(4, 0, 2), 1);
        CarTangos x = Parks.of("h2.1*3");
        x.addCar(9, 3, 2);
        Check.same("they are there", Parks.picture(x) + " " + Parks.carsOf(x),
                "...../...../.000./....1/....1 h2.1*3 v4.3*2");
    }

    static void addCarAnswers() {
        Check.promise(2, "Returns its number.");
        CarTangos x = new CarTangos();
        for (int car = 0; car < 5; car++) {
            Check.same("in an empty row", x.addCar(car, 0, 2), car);
        }
        Check.same("the last one", x.addCar(9, 0, 3), 5);
        x.dropLast();
        x.dropLast();
        Check.same("behind two that went", x.addCar(9, 0, 3), 4);
        x.undo();
        Check.same("behind one that was undone", x.addCar(9, 1, 3), 4);
    }

    static void addCarLanes() {
        Check.promise(2, "`lane`: 0 to 9");
        for (int lane = 0; lane <= 9; lane++) {
            CarTangos x = new CarTangos();
            if (lane >= 5) {
                x.addCar(4, 0, 2);
            }
            Check.same("lane " + lane, x.addCar(lane, 0, 2), lane < 5 ? 0 : 1);
            Check.same("is its lane", x.laneOf(x.cars() - 1), lane);
        }
    }

    static void addCarToNoLane() {
        Check.promise(2, "there is no such lane");
        for (int lane : new int[] {-1, -2, -5, 10, 11, 15}) {
            Edge.index("lane " + lane, "", x -> x.addCar(lane, 0, 2));
            Edge.index("lane " + lane + " behind the red one", "h2.0*2", x -> x.addCar(lane, 0, 2));
        }
        for (int lane : Edge.FAR_OFF) {
            Edge.index("lane " + lane, "h2.0*2", x -> x.addCar(lane, 0, 2));
        }
    }

    static void addCarPlaces() {
        Check.promise(2, "`place`: 0 or more");
        for (int lane = 0; lane <= 9; lane++) {
            for (int length = 2; length <= 3; length++) {
                CarTangos x = Parks.of(lane == 4 ? "h3.3*2" : "h4.3*2");
                Check.same("place 0", x.addCar(lane, 0, length) + " " + x.placeOf(1), "1 0");
            }
        }
        Check.same("the red one at place 0", new CarTangos().addCar(0, 0, 2), 0);
    }

    static void addCarBelowPlace0() {
        Check.promise(2, "place is below 0");
        for (int lane = 0; lane <= 9; lane++) {
            int of = lane;
            for (int length = 2; length <= 3; length++) {
                int size = length;
                for (int place : new int[] {-1, -2, -3, -5}) {
                    Edge.argument("place " + place, "", x -> x.addCar(of, place, size));
                }
            }
            for (int place : new int[] {Integer.MIN_VALUE, Integer.MIN_VALUE + 1, -65536, -256, -32}) {
                Edge.argument("place " + place, "h2.0*2", x -> x.addCar(of, place, 2));
            }
        }
    }

    static void addCarLengths() {
        Check.promise(2, "`length`: 2 or 3");
        for (int length = 2; length <= 3; length++) {
            CarTangos x = new CarTangos();
            Check.same("length " + length, x.addCar(2, 0, length), 0);
            Check.same("is its length", x.lengthOf(0), length);
            Check.same("of a column", x.addCar(9, 0, length) + " " + x.lengthOf(1), "1 " + length);
        }
    }

    static void addCarOfNoLength() {
        Check.promise(2, "length is out of range");
        for (int length : new int[] {-1, -2, -3, 0, 1, 4, 5, 6, 258}) {
            Edge.argument("length " + length, "", x -> x.addCar(2, 0, length));
            Edge.argument("length " + length + " of a column", "h2.0*2", x -> x.addCar(9, 0, length));
        }
        for (int length : Edge.FAR_OFF) {
            Edge.argument("length " + length, "", x -> x.addCar(2, 0, length));
            Edge.argument("length " + length + " at place 3", "h2.0*2", x -> x.addCar(9, 3, length));
        }
    }

    static void addCarEnds() {
        Check.promise(2, "the car would not end within its lane");
        for (int lane = 0; lane <= 9; lane++) {
            int of = lane;
            String red = lane == 0 ? "h4.0*2" : "h0.0*2";
            Check.same("2 at place 3", Parks.of(red).addCar(lane, 3, 2), 1);
            Check.same("3 at place 2", Parks.of(red).addCar(lane, 2, 3), 1);
            for (int place : new int[] {4, 5, 6, 30, 256, Integer.MAX_VALUE - 2, Integer.MAX_VALUE - 1, Integer.MAX_VALUE}) {
                Edge.argument("2 at place " + place, red, x -> x.addCar(of, place, 2));
            }
            for (int place : new int[] {3, 4, 5, 6, 256, Integer.MAX_VALUE - 2, Integer.MAX_VALUE - 1, Integer.MAX_VALUE}) {
                Edge.argument("3 at place " + place, red, x -> x.addCar(of, place, 3));
            }
        }
        Check.same("the red one of 2, at the end", new CarTangos().addCar(0, 3, 2), 0);
        Check.same("the red one of 3, at the end", new CarTangos().addCar(0, 2, 3), 0);
        Check.same("in the last corner", Parks.of("h0.0*2").addCar(9, 3, 2), 1);
    }

    static void addCarToSix() {
        Check.promise(2, "there are 6 cars");
        CarTangos five = Parks.of("h0.0*2;v0.1*2;v1.1*2;v2.1*2;v3.1*2");
        Check.same("the sixth", five.addCar(4, 0, 2), 5);
        Check.state("a seventh", () -> five.addCar(3, 0, 2));
        Check.same("six are left", five.cars(), 6);
        Edge.state("a seventh, in a row", Parks.SIX, x -> x.addCar(4, 0, 2));
        Edge.state("a seventh, in a column", Parks.SIX, x -> x.addCar(9, 3, 2));
        five.dropLast();
        Check.same("when one went", five.addCar(3, 0, 2), 5);
        five.undo();
        Check.same("when one was undone", five.addCar(9, 1, 2), 5);
    }

    static void addCarOnTaken() {
        Check.promise(2, "a cell of it is not free");
        for (int k = 0; k < 3; k++) {
            int row = 16 + k;
            int column = 7 + 5 * k;
            Edge.state("a wall on cell " + k + " of a row", "h0.0*2;w" + row, x -> x.addCar(3, 1, 3));
            Edge.state("a wall on cell " + k + " of a column", "h0.0*2;w" + column, x -> x.addCar(7, 1, 3));
            Edge.state("a car on cell " + k + " of a row", "h0.0*2;v" + (1 + k) + ".2*2", x -> x.addCar(3, 1, 3));
            Edge.state("a car on cell " + k + " of a column", "h" + (1 + k) + ".2*2", x -> x.addCar(7, 1, 3));
            Edge.state("a wall, for the red one", "w" + row, x -> x.addCar(3, 1, 3));
        }
        Edge.state("the first cell, of 2", "h0.0*2;w16", x -> x.addCar(3, 1, 2));
        Edge.state("the second cell, of 2", "h0.0*2;w17", x -> x.addCar(3, 1, 2));
        Check.same("walls beside a row", Parks.of("w15;w19;w11;w22").addCar(3, 1, 3), 0);
        Check.same("walls beside a column", Parks.of("h0.3*2;w2;w22;w6;w18").addCar(7, 1, 3), 1);
        Check.same("cars beside it", Parks.of("h1.0*2;v3.1*3").addCar(7, 1, 3), 2);
        Check.same("a car beside it in its lane", Parks.of("h1.0*2").addCar(1, 2, 3), 1);
        Edge.state("a car that ends on its first cell", "h1.0*3", x -> x.addCar(1, 2, 3));
        CarTangos left = Parks.of("h2.0*2");
        left.slide(0, 2);
        Check.same("on cells that a car left", left.addCar(5, 2, 2), 1);
        Check.state("on cells that it came to", () -> left.addCar(7, 2, 2));
    }

    static void addRedInColumn() {
        Check.promise(2, "it would be the red one in a column");
        for (int lane = 5; lane <= 9; lane++) {
            int column = lane;
            Edge.state("lane " + lane, "", x -> x.addCar(column, 0, 2));
            Edge.state("lane " + lane + " of 3", "w24", x -> x.addCar(column, 1, 3));
            Check.same("behind a red one", Parks.of("h4.0*2").addCar(lane, 0, 2), 1);
        }
        CarTangos x = new CarTangos();
        x.keep();
        x.addCar(0, 0, 2);
        x.dropLast();
        Check.state("when the red one went", () -> x.addCar(5, 0, 2));
        Check.same("a row then", x.addCar(4, 0, 2), 0);
        x.restore();
        Check.state("when none is restored", () -> x.addCar(5, 0, 2));
        x.undo();
        Check.same("when the red one is back", x.addCar(5, 0, 2), 1);
    }

    static void addCarErrorsInOrder() {
        Check.term(2, "If several exceptions apply, the one that is named first in the throws clause is thrown.");
        for (String park : new String[] {"", "h0.0*2", Parks.SIX}) {
            for (int lane : new int[] {-1, 10}) {
                Edge.index("lane " + lane + ", and place", park, x -> x.addCar(lane, -1, 2));
                Edge.index("lane " + lane + ", and length", park, x -> x.addCar(lane, 0, 4));
                Edge.index("lane " + lane + ", and end", park, x -> x.addCar(lane, 3, 3));
                Edge.index("lane " + lane + ", and cells", park, x -> x.addCar(lane, 0, 2));
            }
            for (int lane : new int[] {0, 5}) {
                Edge.argument("place, and cells or number", park, x -> x.addCar(lane, -1, 2));
                Edge.argument("length, and cells or number", park, x -> x.addCar(lane, 0, 1));
                Edge.argument("end, and number or column", park, x -> x.addCar(lane, 4, 2));
            }
        }
    }

    /** All lanes, places and lengths around what is allowed, against the document's own words. */
    static void addCarAround() {
        Check.promise(2, "A car comes.");
        for (String park : new String[] {"", "w17;h1.1*2;v3.2*3"}) {
            for (int lane = -1; lane <= 10; lane++) {
                for (int place = -1; place <= 5; place++) {
                    for (int length = 1; length <= 4; length++) {
                        int[] asked = {lane, place, length};
                        CarTangos x = Parks.of(park);
                        String due = dueOfAdding(x, lane, place, length);
                        Check.same("lane " + lane + ", place " + place + ", length " + length + " in " + park,
                                Check.answer(() -> x.addCar(asked[0], asked[1], asked[2])), due);
                    }
                }
            }
        }
    }

    private static String dueOfAdding(CarTangos x, int lane, int place, int length) {
        if (lane < 0 || lane > 9) {
            return "throws.java.lang.IndexOutOfBoundsException";
        }
        if (length != 2 && length != 3 || place < 0 || place + length > 5) {
            return "throws.java.lang.IllegalArgumentException";
        }
        boolean isFine = x.cars() > 0 || lane < 5;
        for (int i = place; i < place + length; i++) {
            int cell = lane < 5 ? 5 * lane + i : 5 * i + lane - 5;
            isFine &= x.carOn(cell) < 0 && !x.isWall(cell);
        }
        return isFine ? String.valueOf(x.cars()) : "throws.java.lang.IllegalStateException";
    }

    // ---- promise 3: dropLast

    static void dropLast() {
        Check.promise(3, "The latest car goes. Undoable.");
        Edge.undone("one of two", Parks.of(Parks.ONE_IN_THE_WAY), CarTangos::dropLast, 1);
        Edge.undone("the red one", Parks.of("h2.0*2"), CarTangos::dropLast, 0);
        Edge.undone("one of six, with a log and a stop", Edge.busy(Parks.SIX), CarTangos::dropLast, 5);
        CarTangos x = Parks.of("h2.0*2;v3.1*2;v4.1*3");
        x.dropLast();
        Check.same("not the first one", Parks.carsOf(x) + " " + Parks.picture(x),
                "h2.0*2 v3.1*2 ...../...1./00.1./...../.....");
    }

    static void dropLastAnswers() {
        Check.promise(3, "Returns how many are left.");
        CarTangos x = Parks.of(Parks.SIX);
        for (int left = 5; left >= 0; left--) {
            Check.same("left", x.dropLast() + " " + x.cars(), left + " " + left);
        }
    }

    static void dropLastOfNone() {
        Check.promise(3, "there is none");
        Edge.state("a new park", "", CarTangos::dropLast);
        Edge.state("walls alone", "w0;w1;w2;w3", CarTangos::dropLast);
        CarTangos x = Parks.of("h2.0*2");
        Check.same("the last one", x.dropLast(), 0);
        Check.state("then none", x::dropLast);
        x.undo();
        Check.same("the last one again", x.dropLast(), 0);
        x.undo();
        x.undo();
        Check.state("none, undone", x::dropLast);
    }

    // ---- promise 4: toggleWall

    static void toggleWall() {
        Check.promise(4, "A wall comes, or goes, if it is there. Undoable.");
        Edge.undone("comes", new CarTangos(), x -> x.toggleWall(0), true);
        Edge.undone("goes", Parks.of("w0"), x -> x.toggleWall(0), false);
        Edge.undone("the fourth comes", Parks.of("w0;w1;w2"), x -> x.toggleWall(24), true);
        Edge.undone("one of four goes", Parks.of("w0;w1;w2;w24"), x -> x.toggleWall(24), false);
        Edge.undone("with a log and a stop", Edge.busy("h2.0*2"), x -> x.toggleWall(24), true);
    }

    static void toggleWallAnswers() {
        Check.promise(4, "Returns true if it is there then.");
        CarTangos x = new CarTangos();
        for (int i = 0; i < 6; i++) {
            Check.same("to and fro", x.toggleWall(12) + " " + x.isWall(12), i % 2 == 0 ? "true true" : "false false");
        }
    }

    static void toggleWallCells() {
        Check.promise(4, "`cell`: 0 to 24");
        for (int cell = 0; cell <= 24; cell++) {
            CarTangos x = new CarTangos();
            Check.same("cell " + cell, x.toggleWall(cell) + Parks.wallsOf(x), "truew" + cell);
        }
    }

    static void toggleWallOnNoCell() {
        Check.promise(4, "there is no such cell");
        Edge.noSuchCells(x -> x::toggleWall);
    }

    static void toggleWallOnCar() {
        Check.promise(4, "a car is on the cell");
        for (int cell : new int[] {11, 12, 13, 4, 9, 14}) {
            Edge.state("cell " + cell, "h2.1*3;v4.0*3", x -> x.toggleWall(cell));
        }
        for (int cell : new int[] {10, 6, 8, 16, 18, 3, 19}) {
            Check.same("beside them, cell " + cell, Parks.of("h2.1*3;v4.0*3").toggleWall(cell), true);
        }
        CarTangos x = Parks.of("h2.0*2");
        x.slide(0, 2);
        Check.same("where a car was", x.toggleWall(10), true);
        Check.state("where it is", () -> x.toggleWall(13));
    }

    static void toggleFifthWall() {
        Check.promise(4, "a wall would come, and there are 4");
        CarTangos x = Parks.of("w0;w1;w2");
        Check.same("the fourth", x.toggleWall(3) + " " + x.walls(), "true 4");
        Check.state("a fifth", () -> x.toggleWall(4));
        Check.same("four are left", Parks.wallsOf(x), "w0w1w2w3");
        Edge.state("a fifth", "w0;w6;w12;w24;h4.0*2", y -> y.toggleWall(1));
        Edge.state("a fifth on a car", "w0;w6;w12;w24;h4.0*2", y -> y.toggleWall(20));
        Check.same("one of four goes", x.toggleWall(3), false);
        Check.same("another one comes", x.toggleWall(24), true);
        Check.state("a fifth again", () -> x.toggleWall(3));
        for (int cell : new int[] {0, 1, 2, 24}) {
            Check.same("all go", x.toggleWall(cell), false);
        }
        Check.same("none is left", x.walls(), 0);
    }

    static void toggleWallErrorsInOrder() {
        Check.term(4, "If several exceptions apply, the one that is named first in the throws clause is thrown.");
        Edge.index("no such cell, and four walls", "w0;w1;w2;w3", x -> x.toggleWall(25));
        Edge.index("no such cell, and four walls", "w0;w1;w2;w3", x -> x.toggleWall(-1));
    }
}
