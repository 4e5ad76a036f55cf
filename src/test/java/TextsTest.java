/** Promises 9 to 14: the buffer, its errors, works and stops. */
public final class TextsTest {
    public static void main(String[] args) {
        append();
        clearBuffer();
        firstErrorOfGoodTexts();
        firstErrors();
        textsThatGoOnForEver();
        work();
        workParts();
        incompleteWorks();
        worksThatStop();
        eachPartStopsAsItsMethod();
        worksAreUndoneAsOne();
        stops();
        Check.end("TextsTest");
    }

    private static int errorOf(String text) {
        CarTangos x = new CarTangos();
        Parks.type(x, text);
        return x.firstError();
    }

    private static Object workOf(CarTangos x, String text) {
        Parks.type(x, text);
        return Check.answer(x::work);
    }

    private static void append() {
        CarTangos x = new CarTangos();
        Check.same("33", x.append(33), 1);
        Check.same("126", x.append(126), 2);
        Check.argument("32", () -> x.append(32));
        Check.argument("127", () -> x.append(127));
        for (int off : Parks.FAR_OFF) {
            Check.argument("code " + off, () -> x.append(off));
        }
        for (int i = 3; i <= 60; i++) {
            Check.same("length", x.append('d'), i);
        }
        Check.state("a 61st", () -> x.append('d'));
        Check.argument("a code goes ahead of a full buffer", () -> x.append(10));
        Check.same("60", x.clearBuffer(), 60);
        Check.same("room again", x.append('d'), 1);
        Check.same("not undoable", x.savedStates(), 0);
    }

    private static void clearBuffer() {
        CarTangos x = new CarTangos();
        Check.same("empty", x.clearBuffer(), 0);
        Parks.type(x, "xyz");
        Check.same("3", x.clearBuffer(), 3);
        Check.same("then empty", x.clearBuffer() + x.firstError(), 0);
        Check.same("not undoable", x.savedStates(), 0);
    }

    private static void firstErrorOfGoodTexts() {
        String[] texts = {"", "h", "h4", "h0.", "h3.3", "h0.0*", "h0.0*2", "v4.3*3;", "0", "5+", "5-3", "0+1;b;d;w",
            "w0", "w9", "w10", "w19", "w20", "w24", "w1", "w2", "w1;", "w2;b", "w0;w24;", "b", "d", "d;b;d", "h2.0*2;0+3",
            "3-1;3-2;3-3;3+1"};
        for (String text : texts) {
            Check.same("no error in " + text, errorOf(text), text.length());
        }
    }

    private static void firstErrors() {
        String[] texts = {"~", "h~", "h5~", "H~", ";~", "hh", "h:", "h0~", "h0*", "h0.~", "h0.4", "h0./", "h0.3~", "h0.3.",
            "h0.3*1", "h0.3*4", "h0.3*22", "h0.3*2~", "h0.3*2,", "v5", "v0.0*3v", "6", "/", "0~", "0*", "0+0", "0+4", "0-~",
            "0+1~", "0+12", "w~", "w;", "w/", "w:", "w00", "w01", "w30", "w99", "w25", "w29", "w2~", "w1~", "w1:", "w110",
            "w240", "b~", "bb", "d~", "dd", "b;~", "b;;", "d;;", "0+1;6", "-", "+", "h2.0*2;0+3;w25;x"};
        int[] dues = {0, 1, 1, 0, 0, 1, 1, 2, 2, 3, 3, 3, 4, 4,
            5, 5, 6, 6, 6, 1, 6, 0, 0, 1, 1, 2, 2, 2,
            3, 3, 1, 1, 1, 1, 2, 2, 2, 2, 2, 2, 2, 2, 2, 3,
            3, 1, 1, 1, 1, 2, 2, 2, 4, 0, 0, 13};
        for (int i = 0; i < texts.length; i++) {
            Check.same("error of " + texts[i], errorOf(texts[i]), dues[i]);
            CarTangos x = new CarTangos();
            Check.same("work of " + texts[i], workOf(x, texts[i]), "throws.java.lang.IllegalArgumentException");
            Check.same("the buffer stays: " + texts[i], x.clearBuffer(), texts[i].length());
        }
    }

    /** A buffer that ends in the midst of a part is no error: texts may be of any length. */
    private static void textsThatGoOnForEver() {
        CarTangos x = new CarTangos();
        for (int i = 0; i < 29; i++) {
            Parks.type(x, "b;");
        }
        Parks.type(x, "h0");
        Check.same("60 characters", x.firstError(), 60);
        Check.argument("not complete", x::work);
        x.clearBuffer();
        for (int i = 0; i < 30; i++) {
            Parks.type(x, "d;");
        }
        Check.same("60 again", x.firstError(), 60);
        Check.argument("a last ; asks for more", x::work);
    }

    private static void work() {
        CarTangos x = new CarTangos();
        Check.same("a park", workOf(x, "h2.0*2;v3.1*2;w24;w0;1+1;1+1;0+2"), 7);
        Check.same("picture", Parks.picture(x), "#..../...../..00./...1./...1#");
        Check.same("the log", Parks.sight(x), "h2.2*2 v3.3*2|w0w24|1+1 1+1 0+2|no stop");
        Check.same("the buffer is empty", x.clearBuffer(), 0);
        Check.same("saved once", x.savedStates(), 1);
        Check.same("back, and out", workOf(x, "b;b;d"), 3);
        Check.same("then", Parks.logOf(x), "1+1 1-2 0+3");
        Check.same("a wall goes", workOf(x, "w24"), 1);
        Check.same("then", Parks.wallsOf(x) + x.logged(), "w00");
    }

    private static void workParts() {
        CarTangos x = new CarTangos();
        Check.same("rows and columns", workOf(x, "h0.0*2;h4.1*3;v0.2*2;v4.0*2"), 4);
        Check.same("cars", Parks.carsOf(x), "h0.0*2 h4.1*3 v0.2*2 v4.0*2");
        Check.same("slides", workOf(x, "0+1;1-1;2-1;3+2;3-1"), 5);
        Check.same("log", Parks.logOf(x), "0+1 1-1 2-1 3+2 3-1");
        CarTangos walls = new CarTangos();
        Check.same("one and two digits", workOf(walls, "w1;w2;w10;w2;w24;w19"), 6);
        Check.same("walls", Parks.wallsOf(walls), "w1w10w19w24");
        Check.same("wall 20 asks for a fifth", workOf(walls, "w20") + Parks.wallsOf(walls), "0w1w10w19w24");
        for (String wall : new String[] {"w0", "w1", "w2", "w3", "w9", "w10", "w19", "w20", "w24"}) {
            CarTangos one = new CarTangos();
            Check.same("alone: " + wall, workOf(one, wall) + Parks.wallsOf(one), "1" + wall);
        }
        CarTangos out = Parks.of("h2.3*2");
        Check.same("out already", workOf(out, "d;d;0-3;d;0-1"), 5);
        Check.same("log", Parks.logOf(out), "0-3 0+3 0-1");
    }

    private static void incompleteWorks() {
        String[] texts = {"", "h", "h0", "h0.", "h0.0", "h0.0*", "0", "0+", "w", "b;", "h0.0*2;", "w1;w"};
        for (String text : texts) {
            CarTangos x = new CarTangos();
            Check.same("incomplete: " + text, workOf(x, text), "throws.java.lang.IllegalArgumentException");
            Check.same("nothing is done: " + text, Parks.sight(x) + x.savedStates(), "|||no stop0");
            Check.same("the buffer stays: " + text, x.clearBuffer(), text.length());
        }
        CarTangos x = new CarTangos();
        Parks.type(x, "h0.0*");
        Check.argument("not yet", x::work);
        x.append('2');
        Check.same("now", x.work(), 1);
    }

    private static void worksThatStop() {
        CarTangos x = new CarTangos();
        Check.same("stops at once", workOf(x, "d;h0.0*2"), 0);
        Check.same("part 0", Parks.sight(x), "|||stop 0");
        Check.same("saved all the same", x.savedStates(), 1);
        Check.same("cleared all the same", x.clearBuffer(), 0);
        Check.same("stops in the midst", workOf(x, "h0.0*2;0+1;0+3;0+1"), 2);
        Check.same("part 2", Parks.sight(x), "h0.1*2||0+1|stop 2");
        Check.same("stops at the last", workOf(x, "0+1;5+1"), 1);
        Check.same("part 1", Parks.sight(x), "h0.2*2||0+1 0+1|stop 1");
    }

    private static void eachPartStopsAsItsMethod() {
        String[] parts = {"h0.3*3", "v0.3*3", "h2.0*2", "v0.1*2", "0+2", "0-1", "1+3", "5+1", "w10", "d"};
        for (String part : parts) {
            CarTangos x = Parks.of(Parks.NEVER);
            Check.same("stop at " + part, workOf(x, part), 0);
            Check.same("nothing is done by " + part, Parks.sight(x), "h2.0*2 v3.1*3|||stop 0");
        }
        CarTangos x = Parks.of("h2.0*2;w0;w1;w2;w3");
        Check.same("a fifth wall", workOf(x, "w4"), 0);
        Check.same("nothing to take back", workOf(x, "b"), 0);
        Check.same("a red one in a column", workOf(new CarTangos(), "v0.0*2"), 0);
        CarTangos six = Parks.of("h0.0*2;v0.1*2;v1.1*2;v2.1*2;v3.1*2;v4.1*2");
        Check.same("a seventh car", workOf(six, "h4.0*2"), 0);
        CarTangos full = Parks.of(Parks.ONE_IN_THE_WAY);
        Parks.fillLog(full, 59);
        Check.same("no room for a plan", workOf(full, "d"), 0);
        Check.same("nothing of it is done", full.logged() + Parks.carsOf(full), "59h2.1*2 v3.1*2");
        Check.same("a full log", workOf(full, "0-1;1+1") + " " + full.logged() + " " + full.stoppedPart(), "1 60 1");
    }

    private static void worksAreUndoneAsOne() {
        CarTangos x = Parks.of("h2.0*2");
        workOf(x, "0+1;0+1;w0;0+1;0+1");
        Check.same("done", Parks.sight(x), "h2.3*2|w0|0+1|stop 4");
        Check.same("undone", x.undo() + " " + Parks.sight(x), "1 h2.0*2|||no stop");
        Check.same("the buffer does not come back", x.clearBuffer(), 0);
        Parks.type(x, "b");
        x.toggleWall(3);
        x.undo();
        Check.same("the buffer does not go", x.clearBuffer(), 1);
    }

    private static void stops() {
        CarTangos x = new CarTangos();
        Check.same("without works", x.hasStopped(), false);
        Check.state("no part without works", x::stoppedPart);
        workOf(x, "b");
        Check.same("stopped", x.hasStopped() + " " + x.stoppedPart(), "true 0");
        Parks.type(x, "q");
        Check.argument("wrong works", x::work);
        x.clearBuffer();
        Check.same("leave the latest stop", x.hasStopped() + " " + x.stoppedPart(), "true 0");
        x.toggleWall(0);
        Check.same("so does another call", x.hasStopped() + " " + x.stoppedPart(), "true 0");
        workOf(x, "w0;w0;w0;b");
        Check.same("a later stop", x.hasStopped() + " " + x.stoppedPart(), "true 3");
        workOf(x, "w0");
        Check.same("works without a stop", x.hasStopped(), false);
        Check.state("no part then", x::stoppedPart);
        x.undo();
        Check.same("undone works bring the stop back", x.hasStopped() + " " + x.stoppedPart(), "true 3");
        x.undo();
        Check.same("and the one before", x.hasStopped() + " " + x.stoppedPart(), "true 0");
        x.undo();
        x.undo();
        Check.same("and none", x.hasStopped(), false);
    }
}
