/** The edges that the terms name, each seen through a promise. */
final class TermEdges {
    private TermEdges() {
    }

    static void anObjectFor512Calls() {
        Check.term(1, "An object is used for at most 512 calls after it has been made; what later calls answer is free.");
        CarTangos x = new CarTangos();
        x.addCar(2, 0, 2);
        for (int call = 2; call <= 511; call++) {
            int step = (call - 2) % 61;
            if (step < 60) {
                Check.same("call " + call, x.slide(0, step % 2 == 0 ? 3 : -3), step % 2 == 0 ? 3 : 0);
            } else {
                Check.same("call " + call, x.rewind(), 60);
            }
        }
        Check.same("call 512", x.logged(), 22);
    }

    static void numbers() {
        Check.term(50, "All numbers are integers, but for a share.");
        Check.same("a share", Parks.of("h2.0*2;h2.2*2").reachedShare(), 0.5);
    }

    static void cells() {
        Check.term(24, "The park has 5 rows of 5 cells; the cell of the row r and the column c is 5 times r, and c (0 to 24).");
        for (int row = 0; row <= 4; row++) {
            CarTangos x = new CarTangos();
            x.addCar(row, 3, 2);
            Check.same("the end of row " + row, x.carOn(5 * row + 3) + " " + x.carOn(5 * row + 4), "0 0");
            Check.same("two cells", x.freeCells(), 23);
        }
        for (int column = 0; column <= 4; column++) {
            CarTangos x = Parks.of("h0.0*2");
            x.addCar(5 + column, 3, 2);
            Check.same("the end of column " + column, x.carOn(15 + column) + " " + x.carOn(20 + column), "1 1");
        }
        CarTangos none = new CarTangos();
        Check.index("ahead of the first", () -> none.carOn(-1));
        Check.index("behind the last", () -> none.carOn(25));
    }

    static void upTo4Walls() {
        Check.term(4, "Up to 4 cells are walls.");
        CarTangos x = Parks.of("w0;w1;w2");
        Check.same("a fourth", x.toggleWall(3), true);
        for (int cell = 4; cell <= 24; cell++) {
            int fifth = cell;
            Check.state("a fifth on " + cell, () -> x.toggleWall(fifth));
        }
        Check.same("four", x.walls(), 4);
    }

    static void upTo6Cars() {
        Check.term(2, "There are at most 6 cars, numbered from 0 in the order in which they came; the car 0 is the red one.");
        CarTangos x = new CarTangos();
        int[] lanes = {4, 9, 0, 5, 2, 8};
        for (int car = 0; car < 6; car++) {
            Check.same("car " + car, x.addCar(lanes[car], lanes[car] == 0 ? 2 : lanes[car] == 8 ? 3 : 1, 2), car);
        }
        Check.same("in their order", Parks.carsOf(x), "h4.1*2 v4.1*2 h0.2*2 v0.1*2 h2.1*2 v3.3*2");
        Check.state("a seventh", () -> x.addCar(1, 1, 2));
        CarTangos red = Parks.of("h1.0*2;h3.3*2");
        Check.same("the first one is red", red.isOut() + " " + red.fewestSlides(), "false 1");
    }

    static void lanes() {
        Check.term(21, "A car lies in a lane: 0 to 4 are the rows, 5 to 9 the columns (5 more than their number).");
        for (int number = 0; number <= 4; number++) {
            CarTangos row = new CarTangos();
            row.addCar(number, 1, 3);
            int first = 5 * number + 1;
            Check.same("row " + number, "" + row.carOn(first) + row.carOn(first + 1) + row.carOn(first + 2), "000");
            CarTangos column = Parks.of(number < 2 ? "h0.3*2" : "h0.0*2");
            column.addCar(5 + number, 1, 3);
            Check.same("column " + number, "" + column.carOn(5 + number) + column.carOn(10 + number)
                    + column.carOn(15 + number), "111");
        }
    }

    static void lengthsAndPlaces() {
        Check.term(22, "It has a length of 2 or 3 cells, and a place: how many cells of its lane are ahead of its first one"
                + " (to the left, or above).");
        for (int length = 2; length <= 3; length++) {
            for (int place = 0; place + length <= 5; place++) {
                CarTangos x = Parks.of("h4.0*2");
                x.addCar(1, place, length);
                CarTangos y = Parks.of("h4.0*2");
                y.addCar(8, place, length);
                for (int i = 0; i < 5; i++) {
                    boolean isOn = i >= place && i < place + length;
                    Check.same("cell " + i + " of a row", x.carOn(5 + i), isOn ? 1 : -1);
                    Check.same("cell " + i + " of a column", y.carOn(5 * i + 3), isOn ? 1 : -1);
                }
            }
        }
    }

    static void redInRow() {
        Check.term(2, "The red car lies in a row.");
        for (int lane = 0; lane <= 9; lane++) {
            int of = lane;
            CarTangos x = new CarTangos();
            Check.same("lane " + lane, Check.answer(() -> x.addCar(of, 0, 2)),
                    lane <= 4 ? "0" : "throws.java.lang.IllegalStateException");
        }
    }

    static void noTwoOnACell() {
        Check.term(2, "No two cars, and no car and a wall, are on the same cell.");
        CarTangos x = Parks.of("h2.1*3;w17");
        Check.state("a car onto a car", () -> x.addCar(6, 1, 2));
        Check.state("a car onto a wall", () -> x.addCar(3, 0, 3));
        Check.state("a wall onto a car", () -> x.toggleWall(12));
        x.addCar(9, 2, 2);
        Check.state("a slide onto a car", () -> x.slide(0, 1));
        CarTangos y = Parks.of("h2.0*2;w14");
        Check.state("a slide onto a wall", () -> y.slide(0, 3));
        Check.same("they are not there", Parks.picture(x) + " " + Parks.picture(y),
                "...../...../.0001/..#.1/..... ...../...../00..#/...../.....");
    }

    static void freeCells() {
        Check.term(26, "A cell is free, if no car and no wall is on it.");
        CarTangos x = Parks.of("h2.0*2;w12");
        Check.same("22 of 25", x.freeCells(), 22);
        Check.state("a car's is not", () -> x.addCar(5, 1, 2));
        Check.state("a wall's is not", () -> x.addCar(7, 1, 2));
        Check.same("any other one is", x.addCar(8, 1, 2), 1);
    }

    static void slides() {
        Check.term(5, "A slide moves a car along its lane, by 1 to 3 cells forwards (its place becomes greater), or back, over cells"
                + " that are free but for its own;");
        CarTangos x = Parks.of("h2.0*3");
        Check.same("over its own cells", x.slide(0, 1) + " " + Parks.picture(x), "1 ...../...../.000./...../.....");
        Check.same("and back", x.slide(0, -1), 0);
        CarTangos y = Parks.of("h2.0*2;v4.0*2");
        Check.same("by 1 to 3", y.slide(0, 1) + " " + y.slide(0, 2) + " " + y.slide(0, -3), "1 3 0");
        Check.same("down and up", y.slide(1, 3) + " " + y.slide(1, -2) + " " + Parks.picture(y),
                "3 1 ...../....1/00..1/...../.....");
        Check.argument("by 0", () -> y.slide(0, 0));
        Check.argument("by 4", () -> y.slide(0, 4));
        CarTangos over = Parks.of("h2.0*2;w12");
        Check.state("over a wall", () -> over.slide(0, 3));
        Check.same("no room over it", over.room(0, true) + over.possibleSlides(), 0);
    }

    static void stepsAndFuel() {
        Check.term(34, "it makes as many steps as cells, and costs as much fuel as the steps times its length.");
        for (int length = 2; length <= 3; length++) {
            for (int by = 1; by + length <= 5; by++) {
                CarTangos x = Parks.of("h2.0*" + length);
                x.slide(0, by);
                Check.same(length + " long, by " + by, x.stepsOf(0) + " " + x.fuel() + " " + x.fuelByCars(),
                        by + " " + by * length + " " + by * length);
                x.slide(0, -by);
                Check.same("and back", x.stepsOf(0) + " " + x.fuel() + " " + x.fuelByCars(),
                        2 * by + " " + 2 * by * length + " " + 2 * by * length);
            }
        }
    }

    static void out() {
        Check.term(27, "The red car is out, if there are cars, and its last cell is in the column 4.");
        Check.same("no cars", new CarTangos().isOut(), false);
        Check.same("2 long", "" + Parks.of("h0.2*2").isOut() + Parks.of("h0.3*2").isOut(), "falsetrue");
        Check.same("3 long", "" + Parks.of("h0.1*3").isOut() + Parks.of("h0.2*3").isOut(), "falsetrue");
        Check.same("not another one", Parks.of("h0.0*2;h1.3*2;v4.2*3").isOut(), false);
    }

    static void log() {
        Check.term(30, "The log has the slides that were made, at most 60, the first one ahead.");
        CarTangos x = Parks.of("h2.0*2;v4.1*2");
        x.slide(1, -1);
        x.slide(0, 2);
        Edge.work(x, "0+1;b;0+1");
        Check.same("those of works, too", Parks.logOf(x), "1-1 0+2 0+1");
        x.takeBack();
        x.driveOut();
        Check.same("those of driving out, too", Parks.logOf(x), "1-1 0+2 0+1");
        for (int i = 3; i < 60; i++) {
            x.slide(0, i % 2 == 1 ? -1 : 1);
        }
        Check.same("60", x.logged() + " " + x.carOfSlide(0) + x.changeBySlide(0), "60 1-1");
        Check.state("no more", () -> x.slide(0, 1));
        Check.state("no more back", () -> x.slide(0, -1));
        Check.same("the first one is not dropped", x.logged() + " " + x.carOfSlide(0) + x.changeBySlide(0), "60 1-1");
    }

    static void emptyBehindACarThatComes() {
        Check.term(30, "It is empty behind a car that comes or goes");
        CarTangos x = Edge.logged("h2.0*2", 3);
        x.addCar(0, 0, 2);
        Check.same("a car came", x.logged() + Parks.carsOf(x), "0h2.1*2 h0.0*2");
        x.slide(1, 1);
        x.dropLast();
        Check.same("a car went", x.logged() + Parks.carsOf(x), "0h2.1*2");
        x.undo();
        Check.same("undone", Parks.logOf(x), "1+1");
        x.undo();
        x.undo();
        Check.same("undone up to there", Parks.logOf(x), "0+1 0-1 0+1");
        Edge.work(x, "h4.0*2");
        Check.same("a car came by works", x.logged(), 0);
        Check.state("nothing to take back", x::takeBack);
        x.slide(0, 1);
        Check.state("a car that does not come", () -> x.addCar(4, 1, 2));
        Check.same("leaves it", x.logged(), 1);
    }

    static void emptyBehindAWallThatComes() {
        Check.term(30, "and a wall that comes or goes.");
        CarTangos x = Edge.logged("h2.0*2", 3);
        x.toggleWall(0);
        Check.same("a wall came", x.logged() + Parks.carsOf(x), "0h2.1*2");
        x.slide(0, 1);
        x.toggleWall(0);
        Check.same("a wall went", x.logged() + Parks.carsOf(x), "0h2.2*2");
        x.slide(0, 1);
        Edge.work(x, "w3");
        Check.same("a wall came by works", x.logged(), 0);
        x.slide(0, -1);
        Check.state("a wall that does not come", () -> x.toggleWall(12));
        x.fewestWithWall(24);
        Check.same("leaves it", x.logged(), 1);
    }

    static void callsThatThrow() {
        Check.term(15, "A call that throws an exception changes nothing.");
        String full = "w0;w5;w20;w24;" + Parks.NEVER;
        Edge.index("addCar", full, x -> x.addCar(10, 0, 2));
        Edge.argument("addCar", full, x -> x.addCar(0, 4, 2));
        Edge.state("addCar", full, x -> x.addCar(0, 0, 2));
        Edge.state("dropLast", "", CarTangos::dropLast);
        Edge.index("toggleWall", full, x -> x.toggleWall(25));
        Edge.state("toggleWall", full, x -> x.toggleWall(1));
        Edge.index("slide", full, x -> x.slide(2, 1));
        Edge.argument("slide", full, x -> x.slide(0, 4));
        Edge.state("slide", full, x -> x.slide(0, 3));
        Edge.state("takeBack", "", CarTangos::takeBack);
        Edge.state("driveOut", full, CarTangos::driveOut);
        Edge.argument("append", full, x -> x.append(127));
        Edge.argument("work", full, CarTangos::work);
        Edge.refused("IllegalStateException", "stoppedPart", () -> Parks.of(Parks.NEVER), CarTangos::stoppedPart);
        Edge.refused("IllegalStateException", "undo", CarTangos::new, CarTangos::undo);
        Edge.refused("IllegalStateException", "restore", () -> Parks.of(Parks.NEVER), CarTangos::restore);
        Edge.state("nextCar", full, CarTangos::nextCar);
        Edge.state("nextChange", full, CarTangos::nextChange);
        Edge.argument("fewestBehind", full, x -> x.fewestBehind(0, 0));
        Edge.state("fewestBehind", full, x -> x.fewestBehind(0, 3));
        Edge.state("fewestWithoutLast", "h2.0*2", CarTangos::fewestWithoutLast);
        Edge.state("fewestWithWall", full, x -> x.fewestWithWall(0));
    }
}
