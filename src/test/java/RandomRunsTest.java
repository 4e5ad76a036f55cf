import java.util.List;
import java.util.concurrent.Callable;

/**
 * Runs of calls, drawn by a fixed row of numbers, on CarTangos and on the Reference: every answer,
 * every exception's class and, now and then, all that can be looked at have to be the same.
 */
public final class RandomRunsTest {
    private static final List<String> PARTS = Reference.partsInOrder();

    private long seed;
    private int run;
    private int calls;
    private CarTangos mine;
    private Reference due;

    public static void main(String[] args) {
        RandomRunsTest test = new RandomRunsTest();
        int runs = args.length > 0 ? Integer.parseInt(args[0]) : 220;
        int first = args.length > 1 ? Integer.parseInt(args[1]) : 0;
        for (int run = first; run < first + runs; run++) {
            test.run(run);
        }
        Check.end("RandomRunsTest");
    }

    private int draw(int bound) {
        seed = seed * 6364136223846793005L + 1442695040888963407L;
        return (int) ((seed >>> 33) % bound);
    }

    private boolean odds(int percent) {
        return draw(100) < percent;
    }

    private void same(String call, Callable<Object> got, Callable<Object> want) {
        calls++;
        Check.same("run " + run + ", call " + calls + ", " + call, Check.answer(got), Check.answer(want));
    }

    /** A long run ends well ahead of its 512th call, behind which answers are free. */
    private void run(int number) {
        run = number;
        seed = 977L * number + 5;
        draw(2);
        calls = 0;
        mine = new CarTangos();
        due = new Reference();
        boolean isLong = number % 4 == 3;
        buildPark();
        while (calls < (isLong ? 360 : 60)) {
            change(isLong);
            if (odds(isLong ? 4 : 20)) {
                plans();
            }
            if (odds(15)) {
                onePlan(draw(9));
            }
            if (odds(6)) {
                same("digest", () -> mine.digest(), () -> due.digest());
            }
        }
        looks();
        plans();
        same("digest at the end", () -> mine.digest(), () -> due.digest());
    }

    private void buildPark() {
        int walls = draw(5);
        for (int i = 0; i < walls; i++) {
            wall(draw(25));
        }
        add(draw(5), draw(2), 2);
        int tries = draw(16);
        for (int i = 0; i < tries; i++) {
            add(draw(10), draw(4), 2 + draw(2));
        }
    }

    private void change(boolean slidesMostly) {
        int kind = slidesMostly ? draw(24) : draw(44);
        if (kind < 14) {
            slide(draw(7) - (odds(3) ? 1 : 0), draw(7) - 3 + (odds(3) ? 5 : 0));
        } else if (kind < 16) {
            same("takeBack", () -> mine.takeBack(), () -> due.takeBack());
        } else if (kind == 16) {
            if (odds(20)) {
                same("rewind", () -> mine.rewind(), () -> due.rewind());
            }
        } else if (kind < 19) {
            same("driveOut", () -> mine.driveOut(), () -> due.driveOut());
        } else if (kind < 21) {
            same("undo", () -> mine.undo(), () -> due.undo());
        } else if (kind == 21) {
            same("keep", () -> mine.keep(), () -> due.keep());
        } else if (kind == 22) {
            if (odds(30)) {
                same("restore", () -> mine.restore(), () -> due.restore());
            }
        } else if (kind < 26) {
            work();
        } else if (kind < 32) {
            add(draw(12) - 1, draw(6) - 1, 1 + draw(4));
        } else if (kind < 34) {
            same("dropLast", () -> mine.dropLast(), () -> due.dropLast());
        } else if (kind < 39) {
            wall(draw(27) - 1);
        } else {
            looks();
        }
    }

    private void add(int lane, int place, int length) {
        same("addCar " + lane + " " + place + " " + length,
                () -> mine.addCar(lane, place, length), () -> due.addCar(lane, place, length));
    }

    private void wall(int cell) {
        same("toggleWall " + cell, () -> mine.toggleWall(cell), () -> due.toggleWall(cell));
    }

    private void slide(int car, int by) {
        same("slide " + car + " " + by, () -> mine.slide(car, by), () -> due.slide(car, by));
    }

    private void work() {
        StringBuilder text = new StringBuilder();
        int parts = 1 + draw(6);
        for (int i = 0; i < parts; i++) {
            String part = odds(50) ? draw(6) + (odds(50) ? "+" : "-") + (1 + draw(3))
                    : odds(20) ? (odds(50) ? "b" : "d") : PARTS.get(draw(PARTS.size()));
            text.append(i == 0 ? "" : ";").append(part);
        }
        if (odds(25)) {
            text.setCharAt(draw(text.length()), "hvw0123456789.*+-;bdx~".charAt(draw(22)));
        }
        if (odds(10)) {
            text.setLength(draw(text.length()));
        }
        for (int i = 0; i < text.length(); i++) {
            int code = text.charAt(i);
            same("append", () -> mine.append(code), () -> due.append(code));
        }
        same("firstError of " + text, () -> mine.firstError(), () -> due.firstError());
        same("work of " + text, () -> mine.work(), () -> due.work());
        same("hasStopped", () -> mine.hasStopped(), () -> due.hasStopped());
        same("stoppedPart", () -> mine.stoppedPart(), () -> due.stoppedPart());
        if (odds(80)) {
            same("clearBuffer", () -> mine.clearBuffer(), () -> due.clearBuffer());
        }
    }

    private void looks() {
        int car = draw(8) - 1;
        int cell = draw(27) - 1;
        int slide = odds(50) ? draw(61) - 1 : draw(6);
        same("laneOf", () -> mine.laneOf(car), () -> due.laneOf(car));
        same("placeOf", () -> mine.placeOf(car), () -> due.placeOf(car));
        same("lengthOf", () -> mine.lengthOf(car), () -> due.lengthOf(car));
        same("carOn", () -> mine.carOn(cell), () -> due.carOn(cell));
        same("isWall", () -> mine.isWall(cell), () -> due.isWall(cell));
        same("room forwards", () -> mine.room(car, true), () -> due.room(car, true));
        same("room back", () -> mine.room(car, false), () -> due.room(car, false));
        same("possibleSlides", () -> mine.possibleSlides(), () -> due.possibleSlides());
        same("freeCells", () -> mine.freeCells(), () -> due.freeCells());
        same("carOfSlide", () -> mine.carOfSlide(slide), () -> due.carOfSlide(slide));
        same("changeBySlide", () -> mine.changeBySlide(slide), () -> due.changeBySlide(slide));
        same("stepsOf", () -> mine.stepsOf(car), () -> due.stepsOf(car));
        same("fuel", () -> mine.fuel(), () -> due.fuel());
        same("fuelByCars", () -> mine.fuelByCars(), () -> due.fuel());
        same("savedStates", () -> mine.savedStates(), () -> due.savedStates());
        same("logged", () -> mine.logged(), () -> due.logged());
    }

    /** One answer alone, so that none leans on what another call worked out. */
    private void onePlan(int which) {
        switch (which) {
            case 0 -> same("fewestSlides", () -> mine.fewestSlides(), () -> due.fewestSlides());
            case 1 -> same("fewestSlidesFromEnds", () -> mine.fewestSlidesFromEnds(), () -> due.fewestSlides());
            case 2 -> same("fewestSteps", () -> mine.fewestSteps(), () -> due.fewestSteps());
            case 3 -> same("leastFuel", () -> mine.leastFuel(), () -> due.leastFuel());
            case 4 -> same("leastFuelByRounds", () -> mine.leastFuelByRounds(), () -> due.leastFuel());
            case 5 -> same("nextChange", () -> mine.nextChange(), () -> due.nextChange());
            case 6 -> same("reachableOut", () -> mine.reachableOut(), () -> due.reachableOut());
            case 7 -> same("farthest", () -> mine.farthest(), () -> due.farthest());
            default -> same("arrangements", () -> mine.arrangements(), () -> due.arrangements());
        }
    }

    private void plans() {
        int car = draw(7) - (odds(5) ? 1 : 0);
        int by = draw(7) - 3 + (odds(5) ? 4 : 0);
        int cell = draw(27) - 1;
        same("fewestSlides", () -> mine.fewestSlides(), () -> due.fewestSlides());
        same("fewestSlidesFromEnds", () -> mine.fewestSlidesFromEnds(), () -> due.fewestSlides());
        same("fewestSteps", () -> mine.fewestSteps(), () -> due.fewestSteps());
        same("leastFuel", () -> mine.leastFuel(), () -> due.leastFuel());
        same("leastFuelByRounds", () -> mine.leastFuelByRounds(), () -> due.leastFuel());
        same("nextCar", () -> mine.nextCar(), () -> due.nextCar());
        same("nextChange", () -> mine.nextChange(), () -> due.nextChange());
        same("reachable", () -> mine.reachable(), () -> due.reachable());
        same("reachableOut", () -> mine.reachableOut(), () -> due.reachableOut());
        same("farthest", () -> mine.farthest(), () -> due.farthest());
        same("arrangements", () -> mine.arrangements(), () -> due.arrangements());
        same("fewestBehind", () -> mine.fewestBehind(car, by), () -> due.fewestBehind(car, by));
        same("fewestWithoutLast", () -> mine.fewestWithoutLast(), () -> due.fewestWithoutLast());
        same("fewestWithWall", () -> mine.fewestWithWall(cell), () -> due.fewestWithWall(cell));
        same("reachedShare", () -> mine.reachedShare(), () -> due.reachedShare());
    }
}
