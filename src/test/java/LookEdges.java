/** The edges that promises 19 to 29 name: looks at the park. */
final class LookEdges {
    private LookEdges() {
    }

    // ---- promises 19 and 20: cars, walls

    static void cars() {
        Check.promise(19, "Returns the number of cars.");
        CarTangos x = new CarTangos();
        Check.same("none", x.cars(), 0);
        Edge.work(x, "h0.0*2;v0.1*2;v1.1*2;v2.1*2;v3.1*2");
        Check.same("five", x.cars(), 5);
        x.addCar(9, 1, 2);
        Check.same("six", x.cars(), 6);
        Check.state("a seventh", () -> x.addCar(4, 0, 2));
        Check.same("still six", x.cars(), 6);
        x.dropLast();
        Check.same("five again", x.cars(), 5);
        x.undo();
        Check.same("six again", x.cars(), 6);
        Check.same("walls are none", Parks.of("w0;w1;w2;w3").cars(), 0);
    }

    static void walls() {
        Check.promise(20, "Returns the number of walls.");
        CarTangos x = new CarTangos();
        Check.same("none", x.walls(), 0);
        for (int cell = 0; cell < 4; cell++) {
            x.toggleWall(8 * cell);
            Check.same("one more", x.walls(), cell + 1);
        }
        Check.state("a fifth", () -> x.toggleWall(1));
        Check.same("still four", x.walls(), 4);
        x.toggleWall(24);
        Check.same("one less", x.walls(), 3);
        x.undo();
        Check.same("four again", x.walls(), 4);
        Check.same("cars are none", Parks.of(Parks.SIX).walls(), 0);
    }

    // ---- promises 21 to 23: laneOf, placeOf, lengthOf

    static void laneOf() {
        Check.promise(21, "Returns the lane of a car.", "Returns the lane.");
        for (int lane = 0; lane <= 4; lane++) {
            CarTangos x = new CarTangos();
            x.addCar(lane, 0, 2);
            Check.same("a row", x.laneOf(0), lane);
        }
        for (int lane = 5; lane <= 9; lane++) {
            CarTangos x = Parks.of("h4.0*2");
            x.addCar(lane, 0, 3);
            Check.same("a column", x.laneOf(1), lane);
        }
    }

    static void laneOfCars() {
        Check.promise(21, "`car`: its number");
        CarTangos x = Parks.of(Parks.SIX);
        int[] dues = {0, 5, 6, 7, 8, 9};
        for (int car = 0; car < 6; car++) {
            Check.same("car " + car, x.laneOf(car), dues[car]);
        }
    }

    static void laneOfNoCar() {
        Check.promise(21, "there is no such car");
        Edge.noSuchCars(x -> x::laneOf);
    }

    static void placeOf() {
        Check.promise(22, "Returns the place of a car.", "Returns the place.");
        for (int place = 0; place <= 3; place++) {
            CarTangos x = Parks.of("h2." + place + "*2;v" + (place == 3 ? 0 : 4) + "." + place + "*2");
            Check.same("place " + place, x.placeOf(0) + " " + x.placeOf(1), place + " " + place);
        }
        CarTangos x = Parks.of("h2.0*2");
        x.slide(0, 3);
        Check.same("behind a slide", x.placeOf(0), 3);
        x.slide(0, -1);
        Check.same("and one back", x.placeOf(0), 2);
        x.takeBack();
        Check.same("taken back", x.placeOf(0), 3);
        x.rewind();
        Check.same("rewound", x.placeOf(0), 0);
    }

    static void placeOfCars() {
        Check.promise(22, "`car`: its number");
        CarTangos x = Parks.of("h2.0*2;h0.1*2;h1.2*2;h3.3*2;h4.2*3;v0.0*2");
        int[] dues = {0, 1, 2, 3, 2, 0};
        for (int car = 0; car < 6; car++) {
            Check.same("car " + car, x.placeOf(car), dues[car]);
        }
    }

    static void placeOfNoCar() {
        Check.promise(22, "there is no such car");
        Edge.noSuchCars(x -> x::placeOf);
    }

    static void lengthOf() {
        Check.promise(23, "Returns the length of a car.", "Returns the length.");
        Check.same("2", Parks.of("h2.0*2").lengthOf(0), 2);
        Check.same("3", Parks.of("h2.0*3").lengthOf(0), 3);
        Check.same("of columns", Parks.of("h2.0*2;v4.0*3;v3.0*2").lengthOf(1) + Parks.of("h2.0*3;v4.0*2").lengthOf(1), 5);
    }

    static void lengthOfCars() {
        Check.promise(23, "`car`: its number");
        CarTangos x = Parks.of("h2.0*3;h0.0*2;h1.0*3;h3.0*2;h4.0*2;v4.0*3");
        int[] dues = {3, 2, 3, 2, 2, 3};
        for (int car = 0; car < 6; car++) {
            Check.same("car " + car, x.lengthOf(car), dues[car]);
        }
    }

    static void lengthOfNoCar() {
        Check.promise(23, "there is no such car");
        Edge.noSuchCars(x -> x::lengthOf);
    }

    // ---- promises 24 and 25: carOn, isWall

    static void carOn() {
        Check.promise(24, "Returns the car on a cell.");
        CarTangos x = Parks.of("h0.0*3;v4.2*3;h4.2*2;v3.0*2");
        int[] cells = {0, 1, 2, 14, 19, 24, 22, 23, 3, 8};
        int[] dues = {0, 0, 0, 1, 1, 1, 2, 2, 3, 3};
        for (int i = 0; i < cells.length; i++) {
            Check.same("cell " + cells[i], x.carOn(cells[i]), dues[i]);
        }
    }

    static void carOnCells() {
        Check.promise(24, "`cell`: 0 to 24");
        for (int cell = 0; cell <= 24; cell++) {
            CarTangos x = new CarTangos();
            int place = Math.min(cell % 5, 3);
            x.addCar(cell / 5, place, 2);
            Check.same("cell " + cell, x.carOn(cell), 0);
            for (int other = 0; other <= 24; other++) {
                boolean isOn = other == cell / 5 * 5 + place || other == cell / 5 * 5 + place + 1;
                Check.same("cell " + other + " of " + cell, x.carOn(other), isOn ? 0 : -1);
            }
        }
    }

    static void carOnEmptyCell() {
        Check.promise(24, "Returns the car; -1 if there is none.");
        for (int cell = 0; cell <= 24; cell++) {
            Check.same("a new object, cell " + cell, new CarTangos().carOn(cell), -1);
            CarTangos x = new CarTangos();
            x.toggleWall(cell);
            Check.same("a wall, cell " + cell, x.carOn(cell), -1);
        }
        CarTangos x = Parks.of("h2.0*2");
        x.slide(0, 1);
        Check.same("a car that slid", x.carOn(10) + " " + x.carOn(11) + " " + x.carOn(12), "-1 0 0");
        x.dropLast();
        Check.same("a car that went", x.carOn(11), -1);
    }

    static void carOnNoCell() {
        Check.promise(24, "there is no such cell");
        Edge.noSuchCells(x -> x::carOn);
    }

    static void isWall() {
        Check.promise(25, "Tells whether a cell is a wall.");
        CarTangos x = Parks.of("w0;w7;w24;h2.0*2");
        for (int cell = 0; cell <= 24; cell++) {
            Check.same("cell " + cell, x.isWall(cell), cell == 0 || cell == 7 || cell == 24);
        }
    }

    static void isWallOnCells() {
        Check.promise(25, "`cell`: 0 to 24");
        for (int cell = 0; cell <= 24; cell++) {
            CarTangos x = new CarTangos();
            Check.same("not yet", x.isWall(cell), false);
            x.toggleWall(cell);
            Check.same("cell " + cell, Parks.wallsOf(x), "w" + cell);
        }
    }

    static void isWallAnswers() {
        Check.promise(25, "Returns true if it is.");
        CarTangos x = Parks.of("h2.0*2");
        Check.same("a car is none", x.isWall(10), false);
        Check.same("a free cell is none", x.isWall(12), false);
        x.toggleWall(12);
        Check.same("a wall", x.isWall(12), true);
        x.toggleWall(12);
        Check.same("a wall that went", x.isWall(12), false);
        x.undo();
        Check.same("undone", x.isWall(12), true);
    }

    static void isWallOnNoCell() {
        Check.promise(25, "there is no such cell");
        Edge.noSuchCells(x -> x::isWall);
    }

    // ---- promises 26 and 27: freeCells, isOut

    static void freeCells() {
        Check.promise(26, "Returns the number of free cells.");
        Check.same("all", new CarTangos().freeCells(), 25);
        Check.same("a car of 2", Parks.of("h2.0*2").freeCells(), 23);
        Check.same("a car of 3", Parks.of("h2.0*3").freeCells(), 22);
        Check.same("a wall", Parks.of("w24").freeCells(), 24);
        CarTangos least = Parks.of("h0.0*3;h1.0*3;h2.0*3;h3.0*3;h4.0*3;v4.0*3;w3;w8;w13;w18");
        Check.same("as few as can be", least.freeCells(), 3);
        least.slide(5, 2);
        Check.same("a slide takes and leaves", least.freeCells(), 3);
        least.toggleWall(3);
        least.dropLast();
        Check.same("a wall and a car went", least.freeCells(), 7);
    }

    static void isOut() {
        Check.promise(27, "Returns whether the red car is out.");
        Check.same("no cars", new CarTangos().isOut(), false);
        for (int row = 0; row <= 4; row++) {
            for (int length = 2; length <= 3; length++) {
                for (int place = 0; place + length <= 5; place++) {
                    CarTangos x = new CarTangos();
                    x.addCar(row, place, length);
                    Check.same(length + " long at " + place + " of row " + row, x.isOut(), place + length == 5);
                }
            }
        }
        Check.same("another one at the edge", Parks.of("h2.0*2;h1.3*2;v4.2*2").isOut(), false);
        Check.same("another one is not", Parks.of("h2.3*2;h1.0*2").isOut(), true);
        Check.same("a place that is the end of 3, but not of 2", Parks.of("h2.2*2").isOut(), false);
        CarTangos x = Parks.of("h2.3*2");
        x.dropLast();
        Check.same("the red one went", x.isOut(), false);
        x.undo();
        Check.same("it is back", x.isOut(), true);
        x.slide(0, -1);
        Check.same("in again", x.isOut(), false);
    }

    // ---- promise 28: room

    static void room() {
        Check.promise(28, "Returns by how many cells a car could slide.");
        CarTangos x = Parks.of("h2.1*2;v4.0*2;v0.1*2;w14;h4.2*3");
        int[] forwards = {1, 0, 2, 0};
        int[] back = {0, 0, 1, 2};
        for (int car = 0; car < 4; car++) {
            Check.same("car " + car, x.room(car, true) + " " + x.room(car, false), forwards[car] + " " + back[car]);
        }
        x.slide(2, -1);
        Check.same("behind a slide of another one", x.room(0, false), 1);
        Check.same("a full log does not matter", Edge.logged("h2.0*2", 60).room(0, true), 3);
    }

    static void roomOfCars() {
        Check.promise(28, "`car`: its number");
        CarTangos x = Parks.of("h2.0*2;h0.1*2;h1.0*3;h3.2*2;h4.2*3;h0.3*2");
        int[] forwards = {3, 0, 2, 1, 0, 0};
        int[] back = {0, 1, 0, 2, 2, 0};
        for (int car = 0; car < 6; car++) {
            Check.same("car " + car, x.room(car, true) + " " + x.room(car, false), forwards[car] + " " + back[car]);
        }
    }

    static void roomForwardsAndBack() {
        Check.promise(28, "`isForwards`: true: forwards; false: back");
        CarTangos x = Parks.of("h0.0*2;v4.3*2");
        Check.same("a row", x.room(0, true) + " " + x.room(0, false), "3 0");
        Check.same("a column", x.room(1, true) + " " + x.room(1, false), "0 3");
        x.slide(0, 1);
        x.slide(1, -1);
        Check.same("in between", "" + x.room(0, true) + x.room(0, false) + x.room(1, true) + x.room(1, false), "2112");
    }

    static void roomUpTo3() {
        Check.promise(28, "Returns how many, up to 3.");
        for (int place = 0; place <= 3; place++) {
            CarTangos x = Parks.of("h2." + place + "*2");
            Check.same("2 long at " + place, x.room(0, true) + " " + x.room(0, false), (3 - place) + " " + place);
        }
        for (int place = 0; place <= 2; place++) {
            CarTangos x = Parks.of("h2." + place + "*3");
            Check.same("3 long at " + place, x.room(0, true) + " " + x.room(0, false), (2 - place) + " " + place);
        }
        for (int free = 0; free <= 2; free++) {
            Check.same("up to a wall", Parks.of("h2.0*2;w" + (12 + free)).room(0, true), free);
            Check.same("up to a car", Parks.of("h2.0*2;v" + (2 + free) + ".1*2").room(0, true), free);
            Check.same("back to a wall", Parks.of("h2.3*2;w" + (12 - free)).room(0, false), free);
            Check.same("back to a car", Parks.of("h2.3*2;v" + (2 - free) + ".1*2").room(0, false), free);
            Check.same("down to a wall", Parks.of("h0.3*2;v0.0*2;w" + (10 + 5 * free)).room(1, true), free);
            Check.same("up to a wall", Parks.of("h0.3*2;v0.3*2;w" + (10 - 5 * free)).room(1, false), free);
        }
    }

    static void roomOfNoCar() {
        Check.promise(28, "there is no such car");
        Edge.noSuchCars(x -> car -> x.room(car, true));
        Edge.noSuchCars(x -> car -> x.room(car, false));
    }

    // ---- promise 29: possibleSlides

    static void possibleSlides() {
        Check.promise(29, "Returns the number of slides that are possible.");
        Check.same("no cars", new CarTangos().possibleSlides(), 0);
        Check.same("walls alone", Parks.of("w0;w24").possibleSlides(), 0);
        Check.same("one car at an edge", Parks.of("h2.0*2").possibleSlides(), 3);
        Check.same("one car in between", Parks.of("h2.1*2").possibleSlides(), 3);
        Check.same("no room", Parks.of("h2.0*2;w12").possibleSlides(), 0);
        Check.same("no room for any", Parks.of("h0.0*3;w3;v0.1*2;w15").possibleSlides(), 0);
        Check.same("all the room that five rows have", Parks.of("h0.0*2;h1.0*2;h2.0*2;h3.0*2;h4.0*2").possibleSlides(), 15);
        Check.same("a full log does not matter", Edge.logged("h2.0*2", 60).possibleSlides(), 3);
        for (String park : new String[] {Parks.ONE_IN_THE_WAY, Parks.LONG_PLAN, Parks.DEAR_PLAN, Parks.STEPS_OR_FUEL, Parks.SIX}) {
            int due = 0;
            for (int car = 0; car < 6; car++) {
                for (int by = -3; by <= 3; by++) {
                    int[] slide = {car, by};
                    CarTangos x = Parks.of(park);
                    due += Check.answer(() -> x.slide(slide[0], slide[1])) instanceof Integer ? 1 : 0;
                }
            }
            Check.same("as many as can be made in " + park, Parks.of(park).possibleSlides(), due);
        }
    }
}
