import java.util.ArrayList;
import java.util.List;

/** The edges that promises 9 to 14 name: the buffer, its errors, works and stops. */
final class TextEdges {
    private static final String ARGUMENT = "throws.java.lang.IllegalArgumentException";

    private TextEdges() {
    }

    /** A text of so many characters that is the begin of works. */
    private static String begin(int length) {
        return "b;".repeat(30).substring(0, length);
    }

    private static CarTangos typed(String text) {
        CarTangos x = new CarTangos();
        Parks.type(x, text);
        return x;
    }

    // ---- promise 9: append

    static void append() {
        Check.promise(9, "Appends a character to the buffer.");
        CarTangos x = Parks.of("h2.0*2");
        x.append('0');
        x.append('+');
        x.append('3');
        Check.same("they work in their order", x.work() + Parks.sight(x), "1h2.3*2||0+3|no stop");
        Check.same("it is not undoable", x.append('b') + " " + x.savedStates(), "1 2");
    }

    static void appendCodes() {
        Check.promise(9, "`code`: the character code, 33 to 126");
        for (int code = 33; code <= 126; code++) {
            CarTangos x = new CarTangos();
            Check.same("code " + code, x.append(code), 1);
            Check.same("it is that code", x.digest(), Told.digest(x, String.valueOf((char) code)));
        }
    }

    static void appendAnswers() {
        Check.promise(9, "Returns the new length of the buffer.");
        CarTangos x = new CarTangos();
        for (int length = 1; length <= 60; length++) {
            Check.same("one more", x.append('~'), length);
        }
        x.clearBuffer();
        Check.same("behind clearing", x.append('b'), 1);
        x.work();
        Check.same("behind works", x.append('b'), 1);
    }

    static void appendNoCode() {
        Check.promise(9, "code is not 33 to 126");
        for (int code : new int[] {-1, 0, 1, 9, 10, 31, 32, 127, 128, 160, 255, 256 + 'b', 65536 + 'b', -'b', 'b' - 256}) {
            Edge.argument("code " + code, "h2.0*2", x -> x.append(code));
        }
        for (int code : Edge.FAR_OFF) {
            if (code < 33 || code > 126) {
                Edge.argument("code " + code, "", x -> x.append(code));
            }
        }
    }

    static void appendToFullBuffer() {
        Check.promise(9, "the buffer has 60 characters");
        CarTangos x = typed(begin(59));
        Check.same("the 60th", x.append(';'), 60);
        Check.state("a 61st", () -> x.append('b'));
        Edge.refused("IllegalStateException", "a 61st", () -> typed(begin(60)), y -> y.append('b'));
        Check.same("60 are left", x.clearBuffer(), 60);
        Check.same("the first one", x.append('b'), 1);
    }

    static void appendErrorsInOrder() {
        Check.term(9, "If several exceptions apply, the one that is named first in the throws clause is thrown.");
        for (int code : new int[] {32, 127, -1, Integer.MIN_VALUE, Integer.MAX_VALUE}) {
            Edge.refused("IllegalArgumentException", "code " + code + ", and a full buffer",
                    () -> typed(begin(60)), x -> x.append(code));
        }
    }

    // ---- promise 10: clearBuffer

    static void clearBuffer() {
        Check.promise(10, "Clears the buffer.");
        CarTangos x = Parks.of("h2.0*2");
        Parks.type(x, "0+1~");
        x.clearBuffer();
        Check.same("nothing is left", x.clearBuffer() + x.firstError(), 0);
        Check.argument("nothing works", x::work);
        Check.same("it can be written anew", Edge.work(x, "0+2") + Parks.logOf(x), "10+2");
        x.append('b');
        x.clearBuffer();
        Check.same("it is not undoable", x.savedStates(), 2);
    }

    static void clearBufferAnswers() {
        Check.promise(10, "Returns the length that it had.");
        for (int length : new int[] {0, 1, 2, 59, 60}) {
            Check.same("it had " + length, typed(begin(length)).clearBuffer(), length);
        }
        CarTangos x = typed("b");
        x.clearBuffer();
        Check.same("it was cleared", x.clearBuffer(), 0);
    }

    // ---- promise 11: firstError

    static void firstError() {
        Check.promise(11, "Finds the first syntax error of the buffer.");
        Check.same("of several ones, the first", typed("b;~;~;b").firstError(), 2);
        Check.same("good ones behind it don't count", typed("bb;b;b").firstError(), 1);
        Check.same("works that would be refused are no error", typed("v0.3*3;5+3;d;b").firstError(), 14);
        CarTangos x = typed("w2");
        Check.same("none yet", x.firstError(), 2);
        x.append('5');
        Check.same("there now", x.firstError(), 2);
        x.append(';');
        Check.same("it stays", x.firstError() + " " + x.clearBuffer(), "2 4");
    }

    static void firstErrorAnswers() {
        Check.promise(11, "Returns the index of the first character that is a syntax error");
        for (int index = 0; index < 60; index++) {
            CarTangos x = typed(begin(index) + "~");
            Check.same("index " + index, x.firstError(), index);
            Parks.type(x, begin(59 - index));
            Check.same("in a full buffer, index " + index, x.firstError(), index);
        }
    }

    static void firstErrorOfNone() {
        Check.promise(11, "the length of the buffer if there is none");
        Check.same("an empty buffer", new CarTangos().firstError(), 0);
        for (int length = 1; length <= 60; length++) {
            Check.same("of " + length, typed(begin(length)).firstError(), length);
        }
        for (String part : new String[] {"h4.3*3", "v0.0*2", "5+3", "0-1", "w24", "w0", "b", "d"}) {
            for (int length = 1; length <= part.length(); length++) {
                Check.same("the begin of " + part, typed(part.substring(0, length)).firstError(), length);
            }
        }
    }

    /** Each character that may stand in the buffer, behind each begin of a part, in the first part and in the second. */
    static void firstErrorBehindEachBegin() {
        Check.term(11, "Works as a text are one or more parts with \";\" between them:",
                "a character is a syntax error if no works as a text, of any length, begin with the characters before it"
                + " and this character.");
        List<String> parts = Reference.partsInOrder();
        Check.same("parts", parts.size(), 2 + 25 + 36 + 80);
        List<String> begins = new ArrayList<>(List.of(""));
        for (String part : parts) {
            for (int length = 1; length <= part.length(); length++) {
                if (!begins.contains(part.substring(0, length))) {
                    begins.add(part.substring(0, length));
                }
            }
        }
        for (String begin : begins) {
            CarTangos x = null;
            for (int code = 33; code <= 126; code++) {
                String text = begin + (char) code;
                boolean goesOn = begins.contains(text) || code == ';' && parts.contains(begin);
                // A text takes up to 20 of the 512 calls that an object is used for.
                x = x == null || code % 20 == 0 ? new CarTangos() : x;
                Parks.type(x, text);
                Check.same("first error of " + text, x.firstError(), goesOn ? text.length() : begin.length());
                x.clearBuffer();
                Parks.type(x, "b;" + text);
                Check.same("first error of b;" + text, x.firstError(), 2 + (goesOn ? text.length() : begin.length()));
                x.clearBuffer();
            }
        }
    }

    // ---- promise 12: work

    static void work() {
        Check.promise(12, "Does what the buffer tells, part by part, up to the first part for which the method would"
                + " throw an exception, and clears the buffer.");
        CarTangos x = new CarTangos();
        Check.same("all", Edge.work(x, "h2.0*2;v3.1*2;w24;1-1;0+3;b;b;d") + Parks.sight(x), "8h2.3*2 v3.0*2|w24|1-1 0+3|no stop");
        Check.same("the buffer is empty", x.clearBuffer(), 0);
        CarTangos stops = new CarTangos();
        Check.same("none behind the first that can't be", Edge.work(stops, "h2.0*2;0+1;0-2;0+1;w0") + Parks.sight(stops),
                "2h2.1*2||0+1|stop 2");
        Check.same("the buffer is empty also then", stops.clearBuffer(), 0);
    }

    /** The text of each part stands for the call with these very numbers. */
    static void workStandsForCalls() {
        Check.promise(12, "Does what the buffer tells, part by part");
        for (String part : Reference.partsInOrder()) {
            for (String park : new String[] {"", "h2.1*2;v4.2*2;w3", Parks.ONE_IN_THE_WAY + ";h0.0*2;h4.0*2;h1.0*2"}) {
                CarTangos worked = Edge.logged(park, park.isEmpty() ? 0 : 1);
                CarTangos called = Edge.logged(park, park.isEmpty() ? 0 : 1);
                boolean isDone = !String.valueOf(Check.answer(() -> call(called, part))).startsWith("throws");
                Check.same(part + " in " + park, Edge.work(worked, part), isDone ? 1 : 0);
                Check.same(part + " in " + park, Parks.sight(worked), isDone ? Parks.sight(called)
                        : Parks.sight(called).replace("no stop", "stop 0"));
            }
        }
    }

    private static Object call(CarTangos x, String part) {
        char first = part.charAt(0);
        if (first == 'h' || first == 'v') {
            int lane = Integer.parseInt(part.substring(1, 2)) + (first == 'v' ? 5 : 0);
            return x.addCar(lane, Integer.parseInt(part.substring(3, 4)), Integer.parseInt(part.substring(5)));
        }
        switch (first) {
            case 'w':
                return x.toggleWall(Integer.parseInt(part.substring(1)));
            case 'b':
                return x.takeBack();
            case 'd':
                return x.driveOut();
            default:
                return x.slide(Integer.parseInt(part.substring(0, 1)), Integer.parseInt(part.substring(1)));
        }
    }

    static void workStopsWhereMethodsThrow() {
        Check.promise(12, "up to the first part for which the method would throw an exception");
        stopsAt("h2.0*2", "h0.3*3", "a car that would not end within its row");
        stopsAt("h2.0*2", "v0.3*3", "or its column");
        stopsAt(Parks.SIX, "h4.0*2", "a seventh car");
        stopsAt("h2.0*2", "v0.1*2", "a car on a car");
        stopsAt("h2.0*2;w24", "h4.3*2", "a car on a wall");
        stopsAt("w0", "v4.0*2", "a red car in a column");
        stopsAt("h2.0*2", "w10", "a wall on a car");
        stopsAt("w0;w1;w2;w3", "w4", "a fifth wall");
        stopsAt("h2.0*2", "1+1", "no such car");
        stopsAt("w0", "0+1", "no car at all");
        stopsAt("h2.0*2", "0-1", "over the edge");
        stopsAt(Parks.ONE_IN_THE_WAY, "0+2", "against a car");
        stopsAt("h2.0*2", "b", "an empty log");
        stopsAt("w0", "d", "no cars to drive out");
        stopsAt(Parks.NEVER, "d", "no plan");
        CarTangos full = Edge.logged("h2.0*2", 60);
        Check.same("a full log", Edge.work(full, "0+1") + " " + full.logged() + " " + full.stoppedPart(), "0 60 0");
        Check.same("a full log, driving out", Edge.work(full, "d") + " " + full.logged(), "0 60");
        Check.same("a full log, back and on", Edge.work(full, "b;0-1;0+1") + " " + full.logged() + " " + full.stoppedPart(),
                "2 60 2");
        CarTangos near = Edge.logged(Parks.ONE_IN_THE_WAY, 59);
        Check.same("one too many to drive out", Edge.work(near, "d") + Parks.carsOf(near) + near.logged(), "0h2.1*2 v3.1*259");
        CarTangos fits = Edge.logged(Parks.ONE_IN_THE_WAY, 58);
        Check.same("just enough to drive out", Edge.work(fits, "d;d") + Parks.carsOf(fits) + fits.logged(), "2h2.3*2 v3.0*260");
    }

    private static void stopsAt(String park, String part, String why) {
        CarTangos x = Parks.of(park);
        String before = Parks.sight(x);
        Check.same(why, Edge.work(x, part + ";" + part), 0);
        Check.same(why + ", nothing is done", Parks.sight(x), before.replace("no stop", "stop 0"));
    }

    static void workIsUndoable() {
        Check.promise(12, "Undoable, as one call, also if nothing is done.");
        Edge.undone("six parts", new CarTangos(), x -> Edge.work(x, "h2.0*2;0+1;0+1;b;w0;w1"), 6);
        Edge.undone("some of them", Parks.of("h2.0*2"), x -> Edge.work(x, "0+1;0+1;0+3"), 2);
        Edge.undone("nothing is done", Parks.of("h2.0*2"), x -> Edge.work(x, "b"), 0);
        Edge.undone("nothing is done in an empty park", new CarTangos(), x -> Edge.work(x, "d"), 0);
        Edge.undone("nothing is changed", Parks.of("h2.3*2"), x -> Edge.work(x, "d"), 1);
        Edge.undone("a wall comes and goes", Edge.logged("h2.0*2", 3), x -> Edge.work(x, "w0;w0"), 2);
        CarTangos x = new CarTangos();
        Edge.work(x, "h2.0*2;0+1");
        x.undo();
        Check.same("the buffer does not come back", x.clearBuffer(), 0);
    }

    static void workAnswers() {
        Check.promise(12, "Returns how many parts are done.");
        for (int parts = 1; parts <= 30; parts++) {
            Check.same("of " + parts, Edge.work(Parks.of("h2.3*2"), "d;".repeat(parts - 1) + "d"), parts);
        }
        Check.same("30 parts of 60 characters", Edge.work(Parks.of("h2.3*2"), "d;".repeat(29) + "w0"), 30);
        for (int parts = 0; parts <= 19; parts++) {
            Check.same("up to a stop behind " + parts, Edge.work(new CarTangos(), "w0;".repeat(parts) + "b"), parts);
        }
    }

    static void workOfIncompleteText() {
        Check.promise(12, "the buffer is not complete works as a text (the buffer stays)");
        String[] texts = {"", ";", "b;", "b;;b", ";b", "h", "h0", "h0.", "h0.0", "h0.0*", "v4.3*", "0", "0+", "5-", "w", "b;w",
            "b;0+", "h2.0*2;", "h2.0*2;0+1;", "w25", "w00", "w05", "6+1", "0+0", "0+4", "h5.0*2", "h0.4*2", "h0.0*1", "h0.0*4",
            "bb", "b,d", "B", "~", "h2.0*2;0+1;~", "b;".repeat(30), "b;".repeat(29) + "h0"};
        for (String text : texts) {
            Edge.refused("IllegalArgumentException", "works of " + text, () -> {
                CarTangos x = Edge.logged("h2.0*2", 2);
                x.keep();
                Parks.type(x, text);
                return x;
            }, CarTangos::work);
            CarTangos x = typed(text);
            Check.same("works of " + text, Check.answer(x::work), ARGUMENT);
            Check.same("the buffer stays: " + text, x.digest() + " " + x.clearBuffer(),
                    typed(text).digest() + " " + text.length());
        }
        CarTangos x = typed("w");
        Check.argument("not yet", x::work);
        x.append('2');
        Check.same("complete as it stands", x.work() + Parks.wallsOf(x), "1w2");
    }

    // ---- promise 13: hasStopped

    static void hasStopped() {
        Check.promise(13, "Returns whether the latest call of work() that did not throw an exception stopped ahead of the"
                + " end of its text");
        CarTangos x = Parks.of("h2.0*2");
        Edge.work(x, "0+1;0+1");
        Check.same("not at its end", x.hasStopped(), false);
        Edge.work(x, "0+1;0+1");
        Check.same("at the last part", x.hasStopped(), true);
        Check.same("works that throw", Edge.work(x, "d;") + " " + x.hasStopped(), ARGUMENT + " true");
        x.clearBuffer();
        Check.argument("works of nothing", x::work);
        Check.same("leave it", x.hasStopped(), true);
        x.slide(0, -1);
        x.addCar(0, 0, 2);
        x.rewind();
        Check.same("other calls leave it", x.hasStopped(), true);
        Edge.work(x, "d");
        Check.same("to its end again", x.hasStopped(), false);
        Edge.work(x, "b;b");
        Check.same("in the midst", x.hasStopped(), true);
        Check.same("throws behind an end",
                Edge.work(x, "d") + " " + Edge.work(x, "~") + " " + x.hasStopped(), "1 " + ARGUMENT + " false");
    }

    static void hasStoppedWithout() {
        Check.promise(13, "false without such a call");
        CarTangos x = new CarTangos();
        Check.same("a new object", x.hasStopped(), false);
        Check.argument("works that throw", x::work);
        Check.same("don't count", x.hasStopped(), false);
        Check.same("nor do others", Edge.work(x, "w") + " " + x.hasStopped(), ARGUMENT + " false");
        Check.state("nor do calls that throw", x::dropLast);
        Check.same("still not", x.hasStopped(), false);
    }

    // ---- promise 14: stoppedPart

    static void stoppedPart() {
        Check.promise(14, "Returns the number of the part at which the latest call of work() stopped.");
        CarTangos x = Parks.of("h2.0*2");
        Edge.work(x, "0+1;0+1;0+1;0+1");
        Check.same("the fourth", x.stoppedPart(), 3);
        Edge.work(x, "b;0+3;b");
        Check.same("the second", x.stoppedPart(), 1);
        Check.same("works that throw leave it", Edge.work(x, "b;~") + " " + x.stoppedPart(), ARGUMENT + " 1");
        x.clearBuffer();
        x.toggleWall(0);
        Check.same("other calls leave it", x.stoppedPart(), 1);
        Edge.work(x, "b");
        Check.same("the first", x.stoppedPart(), 0);
    }

    static void stoppedPartFrom0() {
        Check.promise(14, "Returns the number, from 0.");
        CarTangos x = new CarTangos();
        Check.same("the first", Edge.work(x, "b") + " " + x.stoppedPart(), "0 0");
        Check.same("the second", Edge.work(x, "w0;b") + " " + x.stoppedPart(), "1 1");
        CarTangos out = Parks.of("h2.3*2");
        Check.same("the 30th", Edge.work(out, "d;".repeat(29) + "b") + " " + out.stoppedPart(), "29 29");
        Check.same("the first of 30", Edge.work(out, "b;".repeat(29) + "b") + " " + out.stoppedPart(), "0 0");
    }

    static void stoppedPartWithout() {
        Check.promise(14, "it did not stop");
        Check.state("a new object", new CarTangos()::stoppedPart);
        CarTangos x = Parks.of("h2.0*2");
        Edge.work(x, "0+1");
        Check.state("to its end", x::stoppedPart);
        Edge.work(x, "0+3");
        Check.same("it stops", x.stoppedPart(), 0);
        Edge.work(x, "0+1");
        Check.state("to its end again", x::stoppedPart);
        x.undo();
        Check.same("undone", x.stoppedPart(), 0);
        x.undo();
        Check.state("undone once more", x::stoppedPart);
        Edge.refused("IllegalStateException", "changes nothing", () -> Edge.logged("h2.0*2", 4), CarTangos::stoppedPart);
    }

    // ---- the terms that the buffer has

    static void bufferOf60() {
        Check.term(9, "The buffer has at most 60 characters.");
        CarTangos x = typed(begin(60));
        Check.state("no 61st", () -> x.append('b'));
        Check.same("60", x.firstError() + " " + x.clearBuffer(), "60 60");
    }

    static void partsOfCars() {
        Check.term(12, "\"h\" or \"v\", a digit from 0 to 4, \".\", a place, 0 to 3, \"*\", and a length, 2 or 3"
                + " (a car comes into this row, or column)");
        for (String part : new String[] {"h0.0*2", "h4.3*2", "h2.2*3", "h3.1*3"}) {
            CarTangos x = new CarTangos();
            Check.same(part, Edge.work(x, part) + Parks.carsOf(x), 1 + part);
        }
        for (String part : new String[] {"v0.0*2", "v4.3*2", "v2.2*3", "v3.0*2"}) {
            CarTangos x = Parks.of(part.equals("v0.0*2") ? "h4.0*2" : "h0.0*2");
            Edge.work(x, part);
            Check.same(part, Parks.carsOf(x).substring(7), part);
        }
        String[] wrong = {"h5.0*2", "v5.0*2", "h-.0*2", "h0.4*2", "v0.4*2", "h0.0*1", "h0.0*4", "v0.0*4", "h0:0*2", "h0.0+2",
            "H0.0*2", "h00.0*2", "h0.00*2", "h0.0*22", "h0.0*02", "x0.0*2"};
        int[] at = {1, 1, 1, 3, 3, 5, 5, 5, 2, 4, 0, 2, 4, 6, 5, 0};
        for (int i = 0; i < wrong.length; i++) {
            Check.same("error of " + wrong[i], typed(wrong[i]).firstError(), at[i]);
        }
    }

    static void partsOfSlides() {
        Check.term(12, "a car, 0 to 5, \"+\" or \"-\", and a digit from 1 to 3 (a slide forwards, or back)");
        for (int by = 1; by <= 3; by++) {
            CarTangos x = Parks.of("h2.0*2");
            Check.same("to and fro by " + by, Edge.work(x, "0+" + by + ";0-" + by) + Parks.logOf(x), "20+" + by + " 0-" + by);
        }
        CarTangos six = Parks.of("h2.0*2;h0.0*2;h1.0*2;h3.0*2;h4.0*2;v4.1*2");
        Check.same("each car", Edge.work(six, "0+1;1+1;2+1;3+1;4+1;5-1") + Parks.logOf(six), "60+1 1+1 2+1 3+1 4+1 5-1");
        String[] wrong = {"6+1", "/+1", "0*1", "0,1", "0+0", "0-0", "0+4", "0-4", "00+1", "0+11", "0+-1", "0--1", "-0+1", "+1"};
        int[] at = {0, 0, 1, 1, 2, 2, 2, 2, 1, 3, 2, 2, 0, 0};
        for (int i = 0; i < wrong.length; i++) {
            Check.same("error of " + wrong[i], typed(wrong[i]).firstError(), at[i]);
        }
    }

    static void partsOfWalls() {
        Check.term(12, "\"w\" and a cell, 0 to 24 without a leading zero (a wall comes, or goes)");
        for (int cell = 0; cell <= 24; cell++) {
            CarTangos x = new CarTangos();
            Check.same("cell " + cell + " comes", Edge.work(x, "w" + cell) + Parks.wallsOf(x), "1w" + cell);
            Check.same("cell " + cell + " goes", Edge.work(x, "w" + cell) + Parks.wallsOf(x), "1");
            Check.same("twice in a text", Edge.work(x, "w" + cell + ";w" + cell) + Parks.wallsOf(x), "2");
        }
        for (int cell = 25; cell <= 99; cell++) {
            Check.same("cell " + cell, typed("w" + cell).firstError(), 2);
        }
        for (int cell = 0; cell <= 9; cell++) {
            Check.same("cell 0" + cell, typed("w0" + cell).firstError(), 2);
        }
        for (int cell = 100; cell <= 249; cell++) {
            Check.same("cell " + cell, typed("w" + cell).firstError(), 3);
        }
        Check.same("a sign", typed("w+1").firstError() + typed("w-1").firstError(), 2);
    }

    static void cellsBehindLongerTexts() {
        Check.promise(10, "Clears the buffer.");
        CarTangos x = new CarTangos();
        Check.same("two digits", Edge.work(x, "w24"), 1);
        Check.same("then one, nothing of the other text is left", Edge.work(x, "w2") + Parks.wallsOf(x), "1w2w24");
        Parks.type(x, "w19");
        x.clearBuffer();
        Check.same("nor of a cleared one", Edge.work(x, "w1") + Parks.wallsOf(x), "1w1w2w24");
        Parks.type(x, "077");
        x.clearBuffer();
        Check.same("nor of what was an error", Edge.work(x, "w2") + Parks.wallsOf(x), "1w1w24");
    }

    static void partsOfTakingBack() {
        Check.term(12, "\"b\" (the latest slide is taken back)");
        CarTangos x = Edge.logged("h2.0*2", 3);
        Check.same("one of three", Edge.work(x, "b") + Parks.logOf(x), "10+1 0-1");
        Check.same("both of two, not a third", Edge.work(x, "b;b;b") + Parks.sight(x), "2h2.0*2|||stop 2");
    }

    static void partsOfDrivingOut() {
        Check.term(12, "or \"d\" (driving out).");
        CarTangos x = Parks.of(Parks.LONG_PLAN);
        CarTangos due = Parks.of(Parks.LONG_PLAN);
        due.driveOut();
        Check.same("eleven slides are one part", Edge.work(x, "d;d") + Parks.sight(x), 2 + Parks.sight(due));
    }

    static void readFromLeftToRight() {
        Check.term(11, "The buffer is read from left to right;");
        Check.same("the leftmost of two", typed("b;x;y").firstError(), 2);
        CarTangos x = new CarTangos();
        Check.same("a wall ahead of a car, not behind it", Edge.work(x, "w10;h2.0*2") + Parks.sight(x), "1|w10||stop 1");
        CarTangos y = new CarTangos();
        Check.same("a car ahead of a wall", Edge.work(y, "h2.0*2;w10") + Parks.sight(y), "1h2.0*2|||stop 1");
    }
}
