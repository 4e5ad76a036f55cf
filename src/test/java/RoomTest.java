import java.lang.management.ManagementFactory;

/** All calls of a run live in one room: an object takes what its constructor takes, and no call takes more. */
public final class RoomTest {
    private static final com.sun.management.ThreadMXBean THREADS =
            (com.sun.management.ThreadMXBean) ManagementFactory.getThreadMXBean();

    public static void main(String[] args) {
        run(new CarTangos());
        long before = THREADS.getCurrentThreadAllocatedBytes();
        CarTangos x = new CarTangos();
        long behindNew = THREADS.getCurrentThreadAllocatedBytes();
        long sum = run(x);
        long behindRun = THREADS.getCurrentThreadAllocatedBytes();
        Check.same("a new object takes under 150,000 bytes: " + (behindNew - before), behindNew - before < 150_000, true);
        Check.same("a run takes under 2,000 bytes: " + (behindRun - behindNew), behindRun - behindNew < 2_000, true);
        Check.same("the run does something", sum != 0, true);
        Check.end("RoomTest");
    }

    private static long run(CarTangos x) {
        x.addCar(2, 0, 2);
        x.addCar(5, 0, 2);
        x.addCar(6, 3, 2);
        x.addCar(7, 0, 2);
        x.addCar(8, 3, 2);
        x.addCar(9, 0, 2);
        long sum = 0;
        for (int i = 0; i < 11; i++) {
            sum += changes(x) + looks(x) + plans(x);
        }
        return sum;
    }

    private static long changes(CarTangos x) {
        x.append('0');
        x.append('+');
        x.append('1');
        x.append(';');
        x.append('b');
        x.append(';');
        x.append('d');
        long sum = x.firstError() + x.work() + x.keep() + x.undo() + x.clearBuffer();
        sum += x.slide(0, 3) + x.takeBack() + x.driveOut() + x.rewind() + x.restore() + x.undo();
        return sum + (x.toggleWall(24) ? 1 : 0) + (x.toggleWall(24) ? 1 : 0);
    }

    private static long looks(CarTangos x) {
        return x.possibleSlides() + x.freeCells() + x.fuel() + x.fuelByCars() + x.carOn(0) + x.room(0, true);
    }

    private static long plans(CarTangos x) {
        long sum = x.digest() + x.fewestSlides() + x.fewestSlidesFromEnds() + x.fewestSteps() + x.leastFuel();
        sum += x.leastFuelByRounds() + x.nextCar() + x.nextChange() + x.reachable() + x.farthest() + x.arrangements();
        return sum + x.fewestBehind(0, 1) + x.fewestWithoutLast() + x.fewestWithWall(24) + (long) x.reachedShare();
    }
}
