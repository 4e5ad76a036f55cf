import java.util.function.Function;
import java.util.function.Supplier;

/** What the tests of edges share: busy parks, calls that are refused, and calls that can be undone. */
final class Edge {
    /** Numbers that are no car of a park of up to 6 cars, no cell, no lane and no slide. */
    static final int[] FAR_OFF = {Integer.MIN_VALUE, Integer.MIN_VALUE + 1, -65536, -256, -32, 32, 256, 65536,
        Integer.MAX_VALUE - 1, Integer.MAX_VALUE};
    static final int[] NO_CHANGES = {0, 4, -4, 5, 257, -255, 65537, Integer.MIN_VALUE, Integer.MIN_VALUE + 1,
        Integer.MAX_VALUE};

    private Edge() {
    }

    /** The park of the text, with a snapshot, a log of two slides (if a car can slide), a stop and a buffer. */
    static CarTangos busy(String park) {
        CarTangos x = Parks.of(park);
        x.keep();
        x.append('b');
        x.work();
        for (int car = 0; car < x.cars() && x.logged() == 0; car++) {
            int by = x.room(car, true) > 0 ? 1 : x.room(car, false) > 0 ? -1 : 0;
            if (by != 0) {
                x.slide(car, by);
                x.slide(car, -by);
            }
        }
        Parks.type(x, "0+");
        return x;
    }

    /** A park whose car 0 has made so many slides to and fro, from its place forwards. */
    static CarTangos logged(String park, int slides) {
        CarTangos x = Parks.of(park);
        Parks.fillLog(x, slides);
        return x;
    }

    /** All that an object holds: it, its saved states, its snapshot and its buffer; the object is spent then. */
    static String all(CarTangos x) {
        StringBuilder all = new StringBuilder().append(x.digest());
        for (int i = 0; i < 9 && x.savedStates() > 0; i++) {
            all.append(' ').append(x.undo()).append(' ').append(x.digest());
        }
        all.append(' ').append(Check.answer(x::restore)).append(' ').append(x.digest());
        return all.append(' ').append(x.clearBuffer()).toString();
    }

    static void index(String what, String park, Function<CarTangos, Object> call) {
        refused("IndexOutOfBoundsException", what, () -> busy(park), call);
    }

    static void argument(String what, String park, Function<CarTangos, Object> call) {
        refused("IllegalArgumentException", what, () -> busy(park), call);
    }

    static void state(String what, String park, Function<CarTangos, Object> call) {
        refused("IllegalStateException", what, () -> busy(park), call);
    }

    /** The call throws this exception and changes nothing of an object that is made anew for it. */
    static void refused(String exception, String what, Supplier<CarTangos> maker, Function<CarTangos, Object> call) {
        CarTangos x = maker.get();
        Check.same(what, Check.answer(() -> call.apply(x)), "throws.java.lang." + exception);
        Check.same(what + ", changes nothing", all(x), all(maker.get()));
    }

    /** The call answers this, saves one state, and is undone by one undo. */
    static void undone(String what, CarTangos x, Function<CarTangos, Object> call, Object due) {
        String before = Parks.sight(x);
        int saved = Math.min(x.savedStates() + 1, 5);
        Check.same(what, Check.answer(() -> call.apply(x)), due);
        Check.same(what + ", saves one state", x.savedStates(), saved);
        Check.same(what + ", is undone", Check.answer(x::undo) + " " + Parks.sight(x), saved - 1 + " " + before);
    }

    /** Types the text and lets it work. */
    static Object work(CarTangos x, String text) {
        Parks.type(x, text);
        return Check.answer(x::work);
    }

    /** Each of them is refused as no car by the call, in parks of no, one, two and six cars. */
    static void noSuchCars(Function<CarTangos, Function<Integer, Object>> call) {
        String[] parks = {"", "h2.0*2", Parks.ONE_IN_THE_WAY, Parks.SIX};
        int[] cars = {0, 1, 2, 6};
        for (int i = 0; i < parks.length; i++) {
            for (int car : new int[] {-1, cars[i], cars[i] + 1, 7, 8}) {
                index("car " + car + " of " + cars[i], parks[i], x -> call.apply(x).apply(car));
            }
            for (int car : FAR_OFF) {
                index("car " + car + " of " + cars[i], parks[i], x -> call.apply(x).apply(car));
            }
        }
        CarTangos gone = Parks.of(Parks.ONE_IN_THE_WAY);
        gone.dropLast();
        Check.index("a car that went", () -> call.apply(gone).apply(1));
        gone.undo();
        Check.same("it came back", gone.cars(), 2);
        gone.undo();
        Check.index("a car that was undone", () -> call.apply(gone).apply(1));
    }

    /** Each of them is refused as no cell by the call, without cars and with. */
    static void noSuchCells(Function<CarTangos, Function<Integer, Object>> call) {
        for (String park : new String[] {"", "w0;w24;h2.0*2", "w1;w2;w3;w4;h2.0*2"}) {
            for (int cell : new int[] {-1, 25, 26, 31, 33, 56, 64}) {
                index("cell " + cell + " of " + park, park, x -> call.apply(x).apply(cell));
            }
            for (int cell : FAR_OFF) {
                index("cell " + cell + " of " + park, park, x -> call.apply(x).apply(cell));
            }
        }
    }

    /** Each of them is refused as no slide by the call, with an empty log, some slides, and a full log. */
    static void noSuchSlides(Function<CarTangos, Function<Integer, Object>> call) {
        for (int slides : new int[] {0, 1, 2, 59, 60}) {
            for (int slide : new int[] {-1, slides, slides + 1, 60, 61, 64}) {
                refused("IndexOutOfBoundsException", "slide " + slide + " of " + slides,
                        () -> logged("h2.0*2", slides), x -> call.apply(x).apply(slide));
            }
            for (int slide : new int[] {Integer.MIN_VALUE, -256, 256, Integer.MAX_VALUE}) {
                refused("IndexOutOfBoundsException", "slide " + slide + " of " + slides,
                        () -> logged("h2.0*2", slides), x -> call.apply(x).apply(slide));
            }
        }
        CarTangos back = logged("h2.0*2", 3);
        back.takeBack();
        Check.index("a slide that was taken back", () -> call.apply(back).apply(2));
        back.rewind();
        Check.index("a slide that was rewound", () -> call.apply(back).apply(0));
        back.undo();
        back.addCar(0, 0, 2);
        Check.index("a slide ahead of a car that came", () -> call.apply(back).apply(0));
    }
}
