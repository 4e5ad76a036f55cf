/** What the tests share: parks from texts, and the sight of a park as one text. */
final class Parks {
    static final int[] FAR_OFF = {Integer.MIN_VALUE, -1000, 1000, Integer.MAX_VALUE};

    /** A red car with a column car ahead of it that can make way: back by 1, or forwards by 2. */
    static final String ONE_IN_THE_WAY = "h2.0*2;v3.1*2";
    /** A red car with a long column car ahead of it that never can make way. */
    static final String NEVER = "h2.0*2;v3.1*3";
    /** A park of 11 slides. */
    static final String LONG_PLAN = "h2.0*2;w9;v2.1*2;h4.2*2;h0.2*3;v4.3*2;v1.3*2";
    /** A park in which the plan of the fewest slides makes more steps and burns more fuel than need be. */
    static final String DEAR_PLAN = "h4.0*2;h2.3*2;v2.1*2;h0.2*2;h3.0*2;v4.3*2";

    /** A park in which the fewest steps are 6, with a fuel of 15, and the least fuel is 14, with 7 steps. */
    static final String STEPS_OR_FUEL = "h2.1*2;h4.2*3;h1.2*2;v3.2*2;v0.2*3;h0.3*2";
    /** Six cars; the rows 3 and 4 are free. */
    static final String SIX = "h0.0*2;v0.1*2;v1.1*2;v2.1*2;v3.1*2;v4.1*2";

    private Parks() {
    }

    static void type(CarTangos x, String text) {
        for (int i = 0; i < text.length(); i++) {
            x.append(text.charAt(i));
        }
    }

    /** A park from a text; every part is called by the method that it stands for. */
    static CarTangos of(String text) {
        CarTangos x = new CarTangos();
        for (String part : text.isEmpty() ? new String[0] : text.split(";")) {
            if (part.charAt(0) == 'w') {
                x.toggleWall(Integer.parseInt(part.substring(1)));
            } else {
                int lane = part.charAt(1) - '0' + (part.charAt(0) == 'v' ? 5 : 0);
                x.addCar(lane, part.charAt(3) - '0', part.charAt(5) - '0');
            }
        }
        return x;
    }

    /** Cars, walls, log and stop, as texts; nothing is changed. */
    static String sight(CarTangos x) {
        return carsOf(x) + "|" + wallsOf(x) + "|" + logOf(x) + "|"
                + (x.hasStopped() ? "stop " + x.stoppedPart() : "no stop");
    }

    static String carsOf(CarTangos x) {
        StringBuilder cars = new StringBuilder();
        for (int car = 0; car < x.cars(); car++) {
            int lane = x.laneOf(car);
            cars.append(car == 0 ? "" : " ").append(lane < 5 ? "h" + lane : "v" + (lane - 5));
            cars.append('.').append(x.placeOf(car)).append('*').append(x.lengthOf(car));
        }
        return cars.toString();
    }

    static String wallsOf(CarTangos x) {
        StringBuilder walls = new StringBuilder();
        for (int cell = 0; cell < 25; cell++) {
            walls.append(x.isWall(cell) ? "w" + cell : "");
        }
        return walls.toString();
    }

    static String logOf(CarTangos x) {
        StringBuilder log = new StringBuilder();
        for (int i = 0; i < x.logged(); i++) {
            int by = x.changeBySlide(i);
            log.append(i == 0 ? "" : " ").append(x.carOfSlide(i)).append(by > 0 ? "+" : "").append(by);
        }
        return log.toString();
    }

    /** One line for each row of the park: the number of a car, # for a wall, . for a free cell. */
    static String picture(CarTangos x) {
        StringBuilder picture = new StringBuilder();
        for (int cell = 0; cell < 25; cell++) {
            picture.append(cell > 0 && cell % 5 == 0 ? "/" : "");
            picture.append(x.isWall(cell) ? "#" : x.carOn(cell) < 0 ? "." : String.valueOf(x.carOn(cell)));
        }
        return picture.toString();
    }

    /** So many slides of the car 0, to and fro. */
    static void fillLog(CarTangos x, int slides) {
        for (int i = 0; i < slides; i++) {
            x.slide(0, i % 2 == 0 ? 1 : -1);
        }
    }
}
