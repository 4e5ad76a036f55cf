import java.util.ArrayList;
import java.util.List;

/** The digest, told again from what the other calls answer. */
final class Told {
    private Told() {
    }

    static long digest(CarTangos x, String buffer) {
        long hash = 4507;
        for (long value : values(x, buffer)) {
            hash = 31 * hash + value;
        }
        return hash;
    }

    static List<Long> values(CarTangos x, String buffer) {
        List<Long> values = new ArrayList<>();
        add(values, x.cars(), x.walls(), x.freeCells(), x.isOut() ? 1 : 0, x.possibleSlides(), x.logged(), x.fuel());
        add(values, x.fuelByCars(), x.fewestSlides(), x.fewestSlidesFromEnds(), x.fewestSteps(), x.leastFuel());
        add(values, x.leastFuelByRounds(), x.reachable(), x.reachableOut(), x.farthest(), x.arrangements());
        add(values, x.savedStates());
        for (int cell = 0; cell < 25; cell++) {
            add(values, x.carOn(cell), x.isWall(cell) ? 1 : 0);
        }
        for (int car = 0; car < x.cars(); car++) {
            add(values, x.laneOf(car), x.placeOf(car), x.lengthOf(car), x.stepsOf(car));
            add(values, x.room(car, true), x.room(car, false));
        }
        for (int slide = 0; slide < x.logged(); slide++) {
            add(values, x.carOfSlide(slide), x.changeBySlide(slide));
        }
        add(values, x.hasStopped() ? 1 : 0);
        if (x.hasStopped()) {
            add(values, x.stoppedPart());
        }
        add(values, Double.doubleToLongBits(x.reachedShare()), buffer.length());
        for (char code : buffer.toCharArray()) {
            add(values, code);
        }
        return values;
    }

    private static void add(List<Long> values, long... more) {
        for (long value : more) {
            values.add(value);
        }
    }
}
