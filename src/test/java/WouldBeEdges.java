import java.math.BigInteger;
import java.util.List;

/** The edges that promises 47 to 51 name: what would be, the share, the digest. */
final class WouldBeEdges {
    private WouldBeEdges() {
    }

    // ---- promise 47: fewestBehind

    static void fewestBehind() {
        Check.promise(47, "Returns the fewest slides of a plan behind a slide.", "Returns how many");
        CarTangos x = Parks.of(Parks.ONE_IN_THE_WAY);
        Check.same("good ones", x.fewestBehind(1, -1) + " " + x.fewestBehind(1, 2), "1 1");
        Check.same("vain ones", x.fewestBehind(1, 1) + " " + x.fewestBehind(0, 1), "2 2");
        Check.same("out behind it", Parks.of("h2.0*2").fewestBehind(0, 3), 0);
        Check.same("nearly out behind it", Parks.of("h2.0*2").fewestBehind(0, 2), 1);
        Check.same("in again behind it", Parks.of("h2.3*2").fewestBehind(0, -1), 1);
        Check.same("out, another one slides", Parks.of("h2.3*2;v0.0*2").fewestBehind(1, 3), 0);
        Check.same("a full log does not matter", Edge.logged("h2.0*2", 60).fewestBehind(0, 3), 0);
        for (int by : new int[] {-1, 1, 2}) {
            CarTangos y = Parks.of(Parks.ONE_IN_THE_WAY);
            int told = y.fewestBehind(1, by);
            Check.same("nothing is changed", Parks.sight(y) + y.savedStates(), "h2.0*2 v3.1*2|||no stop2");
            y.slide(1, by);
            Check.same("as it is behind that slide", told, y.fewestSlides());
        }
    }

    static void fewestBehindCars() {
        Check.promise(47, "`car`: its number");
        CarTangos x = Parks.of("h2.0*2;h0.0*2;h1.0*2;h3.0*2;h4.0*2;v4.1*2");
        int[] dues = {2, 2, 2, 2, 2, 1};
        for (int car = 0; car < 6; car++) {
            Check.same("car " + car, x.fewestBehind(car, car == 5 ? -1 : 1), dues[car]);
        }
    }

    static void fewestBehindBy() {
        Check.promise(47, "`by`: -3 to 3, but not 0");
        for (int by = 1; by <= 3; by++) {
            Check.same("by " + by, Parks.of("h2.0*2").fewestBehind(0, by), by == 3 ? 0 : 1);
            Check.same("by " + -by, Parks.of("h2.3*2").fewestBehind(0, -by), 1);
            Check.same("down by " + by, Parks.of("h2.0*2;v4.0*2").fewestBehind(1, by), by == 3 ? 1 : 2);
            Check.same("up by " + by, Parks.of("h2.0*2;v4.3*2").fewestBehind(1, -by), by == 3 ? 1 : 2);
        }
    }

    static void fewestBehindOfNone() {
        Check.promise(47, "-1 if there is no plan.");
        Check.same("a long car ahead", Parks.of(Parks.NEVER).fewestBehind(0, 1), -1);
        Check.same("the long car slides", Parks.of(Parks.NEVER).fewestBehind(1, -1), -1);
        Check.same("a wall at the exit", Parks.of("h2.0*2;w14").fewestBehind(0, 2), -1);
        Check.same("two cars of a lane", Parks.of("h2.0*2;h2.2*2").fewestBehind(1, 1), -1);
    }

    static void fewestBehindOfNoCar() {
        Check.promise(47, "there is no such car");
        Edge.noSuchCars(x -> car -> x.fewestBehind(car, 1));
        Edge.noSuchCars(x -> car -> x.fewestBehind(car, -1));
    }

    static void fewestBehindByTooMuch() {
        Check.promise(47, "by is out of range");
        for (int by : Edge.NO_CHANGES) {
            Edge.argument("by " + by, "h2.0*2", x -> x.fewestBehind(0, by));
            Edge.argument("by " + by + " of the last one", Parks.SIX, x -> x.fewestBehind(5, by));
            Edge.index("no such car, and by " + by, "h2.0*2", x -> x.fewestBehind(1, by));
        }
    }

    static void fewestBehindNotPossible() {
        Check.promise(47, "the slide is not possible");
        for (int by = 1; by <= 3; by++) {
            int steps = by;
            Edge.state("over the left edge", "h2.0*2", x -> x.fewestBehind(0, -steps));
            Edge.state("over the right edge", "h2.3*2", x -> x.fewestBehind(0, steps));
            Edge.state("over the upper edge", "h4.0*2;v4.0*2", x -> x.fewestBehind(1, -steps));
            Edge.state("over the lower edge", "h0.0*2;v4.3*2", x -> x.fewestBehind(1, steps));
            Edge.state("against a wall", "h2.0*2;w12", x -> x.fewestBehind(0, steps));
            Edge.state("against a car", "h2.0*2;v2.1*2", x -> x.fewestBehind(0, steps));
            Edge.state("back against a car", "h2.3*2;v2.1*2", x -> x.fewestBehind(0, -steps));
        }
        for (int free = 1; free <= 2; free++) {
            int steps = free;
            Edge.state("a wall behind free cells", "h2.0*2;w" + (12 + free), x -> x.fewestBehind(0, steps + 1));
            Edge.state("a car behind free cells", "h2.0*2;v" + (2 + free) + ".1*2", x -> x.fewestBehind(0, steps + 1));
            Check.same("up to a car", Parks.of("h2.0*2;v" + (2 + free) + ".1*2").fewestBehind(0, steps), 2);
        }
    }

    // ---- promise 48: fewestWithoutLast

    static void fewestWithoutLast() {
        Check.promise(48, "Returns the fewest slides of a plan, if the latest car was not there.", "Returns how many");
        Check.same("it is in the way", Parks.of(Parks.ONE_IN_THE_WAY).fewestWithoutLast(), 1);
        Check.same("it is for ever in the way", Parks.of(Parks.NEVER).fewestWithoutLast(), 1);
        Check.same("another one is in the way", Parks.of("h2.0*2;v3.1*2;v0.0*2").fewestWithoutLast(), 2);
        Check.same("the latest, not the first of the others", Parks.of("h2.0*2;v3.1*2;v4.1*2").fewestWithoutLast(), 2);
        Check.same("out already", Parks.of("h2.3*2;v0.0*2").fewestWithoutLast(), 0);
        CarTangos x = Parks.of(Parks.LONG_PLAN);
        String before = Parks.sight(x);
        int told = x.fewestWithoutLast();
        Check.same("nothing is changed", Parks.sight(x) + x.savedStates(), before + 5);
        x.dropLast();
        Check.same("as it is when it went", told, x.fewestSlides());
    }

    static void fewestWithoutLastOfNone() {
        Check.promise(48, "-1 if there is no plan.");
        Check.same("a long car ahead of it", Parks.of(Parks.NEVER + ";v0.0*2").fewestWithoutLast(), -1);
        Check.same("a wall", Parks.of("h2.0*2;w14;v0.0*2").fewestWithoutLast(), -1);
    }

    static void fewestWithoutLastOfFew() {
        Check.promise(48, "there are fewer than 2 cars");
        Edge.state("no car", "", CarTangos::fewestWithoutLast);
        Edge.state("walls alone", "w0;w24", CarTangos::fewestWithoutLast);
        Edge.state("one car", "h2.0*2", CarTangos::fewestWithoutLast);
        Edge.state("one car, out", "h2.3*2", CarTangos::fewestWithoutLast);
        Check.same("two cars", Parks.of("h2.0*2;v0.0*2").fewestWithoutLast(), 1);
        CarTangos x = Parks.of("h2.0*2;v0.0*2");
        x.dropLast();
        Check.state("one of two went", x::fewestWithoutLast);
        x.undo();
        Check.same("it is back", x.fewestWithoutLast(), 1);
    }

    // ---- promise 49: fewestWithWall

    static void fewestWithWall() {
        Check.promise(49, "Returns the fewest slides of a plan, if a wall came to a cell", "Returns how many");
        CarTangos x = Parks.of(Parks.ONE_IN_THE_WAY);
        Check.same("far off", x.fewestWithWall(24), 2);
        Check.same("above the other one", x.fewestWithWall(3), 2);
        Check.same("out already", Parks.of("h2.3*2").fewestWithWall(12), 0);
        for (int cell = 0; cell <= 24; cell++) {
            if (cell != 10 && cell != 11 && cell != 8 && cell != 13) {
                CarTangos y = Parks.of(Parks.ONE_IN_THE_WAY);
                int told = y.fewestWithWall(cell);
                Check.same("no wall has come", y.walls() + y.savedStates(), 2);
                y.toggleWall(cell);
                Check.same("as it is with a wall on " + cell, told, y.fewestSlides());
            }
        }
    }

    static void fewestWithFifthWall() {
        Check.promise(49, "(one more than 4, too)");
        CarTangos x = Parks.of("w0;w5;w20;w21;" + Parks.ONE_IN_THE_WAY);
        Check.same("far off", x.fewestWithWall(24), 2);
        Check.same("at the exit", x.fewestWithWall(14), -1);
        Check.same("above and below", Parks.of("w0;w5;w20;w3;" + Parks.ONE_IN_THE_WAY).fewestWithWall(18), -1);
        Check.state("it can't come, though", () -> x.toggleWall(24));
        Check.same("nothing is changed", Parks.wallsOf(x), "w0w5w20w21");
        Check.same("without cars", Parks.of("w0;w1;w2;w3").fewestWithWall(4), -1);
    }

    static void fewestWithWallCells() {
        Check.promise(49, "`cell`: 0 to 24");
        for (int cell = 0; cell <= 24; cell++) {
            String red = cell / 5 == 2 ? "h0.0*2" : "h2.0*2";
            Check.same("cell " + cell, Parks.of(red).fewestWithWall(cell), 1);
        }
    }

    static void fewestWithWallOfNone() {
        Check.promise(49, "-1 if there is no plan, or no car.");
        for (int cell : new int[] {12, 13, 14}) {
            Check.same("a wall ahead, " + cell, Parks.of("h2.0*2").fewestWithWall(cell), -1);
        }
        Check.same("no plan without it", Parks.of(Parks.NEVER).fewestWithWall(0), -1);
        Check.same("no car", new CarTangos().fewestWithWall(0) + new CarTangos().fewestWithWall(24), -2);
        Check.same("no car, but walls", Parks.of("w0;w24").fewestWithWall(12), -1);
    }

    static void fewestWithWallOnNoCell() {
        Check.promise(49, "there is no such cell");
        Edge.noSuchCells(x -> x::fewestWithWall);
    }

    static void fewestWithWallOnTaken() {
        Check.promise(49, "a car or a wall is on it");
        for (int cell : new int[] {10, 11, 4, 9, 14}) {
            Edge.state("a car on " + cell, "h2.0*2;v4.0*3", x -> x.fewestWithWall(cell));
        }
        for (int cell : new int[] {0, 7, 24}) {
            Edge.state("a wall on " + cell, "h2.0*2;w0;w7;w24", x -> x.fewestWithWall(cell));
            Edge.state("a wall on " + cell + ", without cars", "w0;w7;w24", x -> x.fewestWithWall(cell));
        }
        Edge.state("one of four walls", "h2.0*2;w0;w1;w2;w3", x -> x.fewestWithWall(3));
        CarTangos x = Parks.of("h2.0*2");
        x.slide(0, 2);
        Check.same("where a car was", x.fewestWithWall(10), 1);
        Check.state("where it is", () -> x.fewestWithWall(13));
    }

    // ---- promise 50: reachedShare

    static void reachedShare() {
        Check.promise(50, "Returns how free the park is.");
        Check.same("all can be reached", Parks.of(Parks.LONG_PLAN).reachedShare(), 1.0);
        Check.same("half of them", Parks.of("h2.0*2;h2.2*2").reachedShare(), 0.5);
        Check.same("without cars", new CarTangos().reachedShare(), 1.0);
        Check.same("without cars, with walls", Parks.of("w0;w1;w2;w3").reachedShare(), 1.0);
        CarTangos x = Parks.of("h2.0*2;w12");
        Check.same("a wall between", x.reachedShare(), 0.5);
        x.toggleWall(12);
        Check.same("it went", x.reachedShare(), 1.0);
    }

    static void reachedShareIsDivided() {
        Check.promise(50, "Returns the arrangements that can be reached, as a double, divided by all arrangements.");
        String[] parks = {"h2.0*2;h2.2*2", "h0.0*2;h0.2*2;h1.0*2;h1.2*2;h2.0*2;h2.2*2", "h2.0*3;w13;h0.0*2;w2",
            "h2.0*2;w13;v3.0*2", "h0.0*2;h0.2*2;h1.0*2;h1.2*2"};
        for (String park : parks) {
            CarTangos x = Parks.of(park);
            Check.same("in " + park, x.reachedShare(), (double) x.reachable() / (double) x.arrangements());
        }
        Check.same("three pairs, each in its order", Parks.of(parks[1]).reachedShare(), 0.125);
        CarTangos third = Parks.of("h2.0*2;w13;v3.0*2;v4.0*2");
        Check.same("an odd one", third.reachedShare() + " " + third.reachable() + " " + third.arrangements(),
                (double) third.reachable() / third.arrangements() + " " + third.reachable() + " " + third.arrangements());
    }

    // ---- promise 51: digest

    private static final String[] PARKS = {"", "w0;w24", "h2.0*2", "h2.3*2;w0", Parks.SIX, Parks.NEVER, Parks.LONG_PLAN,
        "h2.0*2;h2.2*2;w0", "h0.0*2;h0.2*2;h1.0*2;h1.2*2;h2.0*2;h2.2*2"};

    static void digest() {
        Check.promise(51, "Computes a hash of the whole state.", "Returns the hash.");
        CarTangos x = Edge.busy("h2.0*2;w0");
        long before = x.digest();
        Check.same("twice the same", x.digest(), before);
        x.append('~');
        Check.same("another buffer", x.digest() == before, false);
        x.clearBuffer();
        Parks.type(x, "0+");
        Check.same("the same buffer", x.digest(), before);
        x.slide(0, 1);
        Check.same("another log", x.digest() == before, false);
        x.keep();
        long behind = x.digest();
        x.toggleWall(24);
        x.undo();
        x.slide(0, -1);
        x.takeBack();
        Check.same("the same state again", x.digest(), behind);
        Check.same("of two objects, the same", Edge.busy(Parks.SIX).digest(), Edge.busy(Parks.SIX).digest());
    }

    static void digestStarts() {
        Check.promise(51, "The hash starts at 4507.");
        for (String park : PARKS) {
            CarTangos x = Parks.of(park);
            long hash = x.digest();
            List<Long> values = Told.values(x, "");
            // 31 is odd, so each step can be taken back in long arithmetic.
            long inverse = BigInteger.valueOf(31).modInverse(BigInteger.ONE.shiftLeft(64)).longValue();
            for (int i = values.size() - 1; i >= 0; i--) {
                hash = (hash - values.get(i)) * inverse;
            }
            Check.same("of " + park, hash, 4507);
        }
    }

    static void digestOverflows() {
        Check.promise(51, "For each value v of the following list, in order, the hash becomes 31 * hash + v, in long arithmetic with"
                + " overflow.");
        for (String park : PARKS) {
            CarTangos x = Edge.busy(park);
            BigInteger hash = BigInteger.valueOf(4507);
            for (long value : Told.values(x, "0+")) {
                hash = hash.multiply(BigInteger.valueOf(31)).add(BigInteger.valueOf(value));
            }
            Check.same("of " + park, x.digest(), hash.longValue());
            Check.same("it does overflow", hash.bitLength() > 64, true);
        }
    }

    static void digestOfBooleans() {
        Check.promise(51, "(A boolean is 1 for true, 0 for false.)");
        CarTangos in = Parks.of("h2.0*2");
        CarTangos out = Parks.of("h2.3*2");
        CarTangos stopped = Parks.of("w0;h2.3*2");
        Edge.work(stopped, "b");
        for (CarTangos x : new CarTangos[] {in, out, stopped}) {
            Check.same("as told", x.digest(), Told.digest(x, ""));
        }
    }

    static void digestOfValues() {
        Check.promise(51, "The values are: cars, walls, freeCells, isOut, possibleSlides, logged, fuel, fuelByCars, fewestSlides,"
                + " fewestSlidesFromEnds, fewestSteps, leastFuel, leastFuelByRounds, reachable, reachableOut, farthest,"
                + " arrangements and savedStates; for each cell carOn and isWall; for each car laneOf, placeOf, lengthOf, stepsOf"
                + " and room forwards and back; for each slide of the log carOfSlide and changeBySlide;");
        for (String park : PARKS) {
            CarTangos x = Parks.of(park);
            Check.same("of " + park, x.digest(), Told.digest(x, ""));
            CarTangos busy = Edge.busy(park);
            Check.same("of a busy one, " + park, busy.digest(), Told.digest(busy, "0+"));
        }
        CarTangos full = Edge.logged("h2.0*2;v4.2*3", 60);
        Check.same("of a full log", full.digest(), Told.digest(full, ""));
    }

    static void digestOfStops() {
        Check.promise(51, "hasStopped, and, if that is true, stoppedPart;");
        CarTangos x = Parks.of("h2.3*2");
        long without = x.digest();
        for (String text : new String[] {"b", "d;b", "d;d;d;b", "d;d"}) {
            Edge.work(x, text);
            Check.same("behind " + text, x.digest(), Told.digest(x, ""));
            x.undo();
            Check.same("undone", x.digest(), without);
        }
    }

    static void digestOfShare() {
        Check.promise(51, "the bits of reachedShare (as Double.doubleToLongBits);");
        for (String park : new String[] {"", "h2.0*2;h2.2*2", "h2.0*2;w13;v3.0*2;v4.0*2", "h2.0*3;w13;h0.0*2;w2",
            "h0.0*2;h0.2*2;h1.0*2;h1.2*2;h2.0*2;h2.2*2", "h2.0*2;h2.2*2;v4.0*2;v0.3*2", "w7;h1.0*2;v2.2*2;v4.0*3;h0.0*2"}) {
            CarTangos x = Parks.of(park);
            Check.same("of " + park, x.digest(), Told.digest(x, ""));
        }
    }

    static void digestOfBuffer() {
        Check.promise(51, "the length of the buffer and each of its character codes.");
        for (int length : new int[] {0, 1, 2, 59, 60}) {
            StringBuilder text = new StringBuilder();
            for (int i = 0; i < length; i++) {
                text.append((char) (33 + i * 7 % 94));
            }
            CarTangos x = new CarTangos();
            Parks.type(x, text.toString());
            Check.same("of " + length, x.digest(), Told.digest(x, text.toString()));
        }
        CarTangos x = new CarTangos();
        Parks.type(x, "b~");
        x.clearBuffer();
        Check.same("a cleared one", x.digest(), Told.digest(x, ""));
    }
}
