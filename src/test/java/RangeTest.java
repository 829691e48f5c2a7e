import java.util.NoSuchElementException;
import java.util.function.IntFunction;

/**
 * For each number that a call takes: every value that is allowed does its work, from the lowest to the highest,
 * and the first ones that are not, on both sides and at the ends of int, are refused and change nothing.
 */
public final class RangeTest {
    private static final Class<IllegalArgumentException> ARGUMENT = IllegalArgumentException.class;
    private static final Class<IllegalStateException> STATE = IllegalStateException.class;
    private static final Class<NoSuchElementException> MISSING = NoSuchElementException.class;
    private static final Class<IndexOutOfBoundsException> PLACE = IndexOutOfBoundsException.class;

    public static void main(String[] args) {
        takts();
        parts();
        amounts();
        rooms();
        amountAndRoomWithoutPart();
        units();
        storeLimit();
        partsOfTheStore();
        periods();
        wants();
        ticks();
        tickLimit();
        carNumbers();
        stationNumbers();
        places();
        traceIndexes();
        signs();
        Check.end();
    }

    /** All that lies next to the range and far from it. */
    private static void refused(String what, Lineclock x, Class<? extends RuntimeException> kind,
            int lowest, int highest, IntFunction<Object> call) {
        int[] outside = {
            lowest - 1, lowest - 2, highest + 1, highest + 2, lowest - 256, highest + 256, lowest - 65536,
            highest + 65536, Integer.MIN_VALUE, Integer.MIN_VALUE + 1, Integer.MAX_VALUE, Integer.MAX_VALUE - 1,
        };
        for (int value : outside) {
            Check.fails(what + " " + value, x, kind, () -> call.apply(value));
        }
    }

    private static void takts() {
        for (int takt = 1; takt <= 9; takt++) {
            Lineclock x = new Lineclock();
            Check.same("promise 2: takt " + takt, x.addStation(takt, -1, 0, 0), 0);
            x.addCar(0);
            x.tick(1);
            Check.same("promise 2: ticks to go with takt " + takt, x.toGo(0), takt);
            if (takt > 1) {
                Check.same("promise 8: not before takt " + takt + " is over", x.tick(takt - 1), 0);
            }
            Check.same("promise 8: when takt " + takt + " is over", x.tick(1), 1);
        }
        Lineclock x = new Lineclock();
        refused("promise 2: takt", x, ARGUMENT, 1, 9, takt -> x.addStation(takt, -1, 0, 0));
        refused("promise 2: takt with a part", x, ARGUMENT, 1, 9, takt -> x.addStation(takt, 0, 1, 4));
    }

    private static void parts() {
        for (int part = 0; part <= 5; part++) {
            Lineclock x = new Lineclock();
            Check.same("promise 2: part " + part, x.addStation(1, part, 1, 4), 0);
            x.supply(part, 1);
            x.setPeriod(1);
            x.addCar(1 << part);
            x.addCar(63 - (1 << part));
            x.tick(3);
            Check.same("promise 2: a car that wants part " + part, Snapshot.trace(x, 0), "0+x");
            Check.same("promise 2: a car that wants all but part " + part, Snapshot.trace(x, 1), "0.x");
        }
        Lineclock x = new Lineclock();
        Check.same("promise 2: part -1 for none", x.addStation(1, -1, 1, 4), 0);
        refused("promise 2: part", x, ARGUMENT, -1, 5, part -> x.addStation(1, part, 1, 4));
    }

    private static void amounts() {
        for (int amount = 1; amount <= 4; amount++) {
            Lineclock x = new Lineclock();
            Check.same("promise 2: amount " + amount, x.addStation(1, 0, amount, 4), 0);
            x.supply(0, 4);
            x.setPeriod(2);
            x.addCar(1);
            x.tick(1);
            Check.same("promise 2: none on the shelf yet", Snapshot.trace(x, 0), "0-");
            x.tick(1);
            Check.same("promise 2: it is there", Snapshot.trace(x, 0), "0-L0+");
            Check.same("promise 2: the amount " + amount + " is taken", x.onShelf(0), 4 - amount);
            Check.same("promise 37: the amount " + amount, x.fitted(), (long) amount);
        }
        Lineclock x = new Lineclock();
        refused("promise 2: amount", x, ARGUMENT, 1, 4, amount -> x.addStation(1, 0, amount, 30));
    }

    private static void rooms() {
        for (int room = 4; room <= 30; room++) {
            Lineclock x = new Lineclock();
            Check.same("promise 2: room " + room, x.addStation(1, 5, 4, room), 0);
            Check.same("promise 2: empty at first", x.onShelf(0), 0);
            x.supply(5, 99);
            x.tick(10);
            Check.same("promise 28: full with " + room, x.onShelf(0), room);
            Check.same("promise 29: without " + room, x.inStore(5), 99 - room);
        }
        Lineclock x = new Lineclock();
        refused("promise 2: room", x, ARGUMENT, 4, 30, room -> x.addStation(1, 0, 1, room));
    }

    private static void amountAndRoomWithoutPart() {
        int[] any = {Integer.MIN_VALUE, -1, 0, 3, 5, 31, Integer.MAX_VALUE};
        for (int amount : any) {
            for (int room : any) {
                Lineclock x = new Lineclock();
                Check.same("promise 2: no part, amount " + amount + ", room " + room,
                        x.addStation(2, -1, amount, room), 0);
                x.setPeriod(1);
                x.supply(0, 9);
                x.addCar(63);
                x.tick(1);
                Check.same("promise 28: no shelf without a part", x.onShelf(0), 0);
                Check.same("promise 8: fitted without a part", Snapshot.trace(x, 0), "0+");
                Check.same("promise 37: nothing is taken without a part", x.fitted(), 0L);
            }
        }
    }

    private static void units() {
        for (int units = 1; units <= 99; units++) {
            Lineclock x = new Lineclock();
            Check.same("promise 3: units " + units, x.supply(2, units), units);
            Check.same("promise 29: units " + units, x.inStore(2), units);
        }
        Lineclock x = new Lineclock();
        refused("promise 3: units", x, ARGUMENT, 1, 99, units -> x.supply(2, units));
    }

    /** For each number of units: just 999 are allowed, and 1000 are not. */
    private static void storeLimit() {
        for (int units = 1; units <= 99; units++) {
            int last = units;
            Lineclock x = new Lineclock();
            fillStore(x, 999 - last);
            if (last < 99) {
                Check.fails("promise 3: one unit too many", x, STATE, () -> x.supply(4, last + 1));
            }
            Check.same("promise 3: up to 999", x.supply(4, last), 999);
            Check.fails("promise 3: 999 and 1", x, STATE, () -> x.supply(4, 1));
            Check.fails("promise 3: 999 and " + last, x, STATE, () -> x.supply(4, last));
        }
    }

    private static void fillStore(Lineclock x, int units) {
        for (int missing = units; missing > 0; missing -= 99) {
            x.supply(4, Math.min(missing, 99));
        }
    }

    private static void partsOfTheStore() {
        Lineclock x = new Lineclock();
        for (int part = 0; part <= 5; part++) {
            Check.same("promise 29: part " + part, x.inStore(part), 0);
            Check.same("promise 3: part " + part, x.supply(part, 10 + part), 10 + part);
            Check.same("promise 27: part " + part, x.lacksOf(part), 0);
        }
        for (int part = 0; part <= 5; part++) {
            Check.same("promise 29: part " + part + " alone", x.inStore(part), 10 + part);
        }
        refused("promise 3: part", x, MISSING, 0, 5, part -> x.supply(part, 1));
        refused("promise 27: part", x, MISSING, 0, 5, part -> x.lacksOf(part));
        refused("promise 29: part", x, MISSING, 0, 5, part -> x.inStore(part));
    }

    private static void periods() {
        for (int period = 1; period <= 60; period++) {
            Lineclock x = new Lineclock();
            x.addStation(1, 0, 1, 4);
            x.supply(0, 99);
            Check.same("promise 4: period " + period, x.setPeriod(period), 10);
            Check.same("promise 30: period " + period, x.nextRound(), period);
            if (period > 1) {
                x.tick(period - 1);
                Check.same("promise 8: no round before tick " + period, x.onShelf(0), 0);
                Check.same("promise 30: one tick before", x.nextRound(), 1);
            }
            x.tick(1);
            Check.same("promise 8: a round in tick " + period, x.onShelf(0), 4);
            Check.same("promise 30: a whole period again", x.nextRound(), period);
            Check.same("promise 4: the period before", x.setPeriod(1), period);
        }
        Lineclock x = new Lineclock();
        refused("promise 4: period", x, ARGUMENT, 1, 60, ticks -> x.setPeriod(ticks));
        Check.same("promise 4: a refused period is not set", x.setPeriod(60), 10);
        refused("promise 4: period", x, ARGUMENT, 1, 60, ticks -> x.setPeriod(ticks));
        Check.same("promise 4: a refused period is not set", x.setPeriod(1), 60);
    }

    private static void wants() {
        for (int wants = 0; wants <= 63; wants++) {
            Lineclock x = new Lineclock();
            StringBuilder due = new StringBuilder();
            for (int part = 0; part <= 5; part++) {
                x.addStation(1, part, 1, 4);
                due.append(part).append(wants / (1 << part) % 2 == 1 ? '-' : '.');
            }
            Check.same("promise 5: wants " + wants, x.addCar(wants), 0);
            x.tick(6);
            Check.same("promise 5: the parts of " + wants, Snapshot.trace(x, 0), due.toString());
        }
        Lineclock x = new Lineclock();
        x.addStation(1, -1, 0, 0);
        refused("promise 5: wants", x, ARGUMENT, 0, 63, wants -> x.addCar(wants));
    }

    private static void ticks() {
        for (int ticks = 1; ticks <= 60; ticks++) {
            Lineclock x = new Lineclock();
            x.addStation(1, -1, 0, 0);
            for (int i = 0; i < 30; i++) {
                x.addCar(0);
            }
            Check.same("promise 8: ticks " + ticks, x.tick(ticks), Math.min(ticks - 1, 30));
            Check.same("promise 9: ticks " + ticks, x.now(), ticks);
        }
        Lineclock x = new Lineclock();
        x.addStation(1, 0, 1, 4);
        x.addCar(1);
        refused("promise 8: ticks", x, ARGUMENT, 1, 60, ticks -> x.tick(ticks));
        Check.same("promise 9: no tick has passed", x.now(), 0);
        Check.same("promise 2: so a station can be added", x.addStation(1, -1, 0, 0), 1);
    }

    /** Just 9999 ticks may pass, with each number of ticks at the end. */
    private static void tickLimit() {
        for (int ticks = 1; ticks <= 60; ticks++) {
            int last = ticks;
            Lineclock x = new Lineclock();
            x.addStation(9, -1, 0, 0);
            for (int i = 0; i < 165; i++) {
                x.tick(60);
            }
            x.tick(39);
            if (ticks < 60) {
                x.tick(60 - ticks);
            }
            x.addCar(0);
            Check.same("promise 9: before the last ticks", x.now(), 9999 - last);
            if (last < 60) {
                Check.fails("promise 8: one tick too many", x, STATE, () -> x.tick(last + 1));
            }
            Check.same("promise 8: up to 9999", x.tick(last), last > 9 ? 1 : 0);
            Check.same("promise 9: 9999", x.now(), 9999);
            Check.fails("promise 8: 9999 and 1", x, STATE, () -> x.tick(1));
            Check.fails("promise 8: 9999 and " + last, x, STATE, () -> x.tick(last));
        }
    }

    /** Each call that takes a car, with no car, some and all. */
    private static void carNumbers() {
        for (int cars : new int[] {0, 1, 2, 29, 30}) {
            Lineclock x = new Lineclock();
            x.addStation(1, 0, 1, 4);
            x.addStation(9, -1, 0, 0);
            for (int i = 0; i < cars; i++) {
                x.addCar(1);
            }
            allCarCalls(x, cars);
            x.tick(30);
            allCarCalls(x, cars);
        }
        Lineclock none = new Lineclock();
        allCarCalls(none, 0);
    }

    private static void allCarCalls(Lineclock x, int cars) {
        for (int car = 0; car < cars; car++) {
            Check.isTrue("promise 12: car " + car, "wsld".indexOf(x.stateOf(car)) >= 0);
        }
        int last = cars - 1;
        refused("promise 6: car", x, MISSING, 0, last, car -> x.swap(car, 0));
        refused("promise 6: other", x, MISSING, 0, last, car -> x.swap(0, car));
        refused("promise 7: car", x, MISSING, 0, last, car -> x.fault(car, 0));
        refused("promise 12: car", x, MISSING, 0, last, car -> x.stateOf(car));
        refused("promise 13: car", x, MISSING, 0, last, car -> x.stationOf(car));
        refused("promise 14: car", x, MISSING, 0, last, car -> x.toGo(car));
        refused("promise 16: car", x, MISSING, 0, last, car -> x.isBack(car));
        refused("promise 23: car", x, MISSING, 0, last, car -> x.leftIn(car));
        refused("promise 24: car", x, MISSING, 0, last, car -> x.faults(car));
        refused("promise 25: car", x, MISSING, 0, last, car -> x.hasFault(car, 0));
        refused("promise 31: car", x, MISSING, 0, last, car -> x.leavesIn(car));
        refused("promise 32: car", x, MISSING, 0, last, car -> x.leavesByTicks(car));
        refused("promise 34: car", x, MISSING, 0, last, car -> x.traceLength(car));
        refused("promise 35: car", x, MISSING, 0, last, car -> x.traceAt(car, 0));
    }

    /** Each call that takes a station, with no station, some and all. */
    private static void stationNumbers() {
        for (int stations = 0; stations <= 8; stations++) {
            Lineclock x = new Lineclock();
            for (int i = 0; i < stations; i++) {
                x.addStation(1, 0, 1, 4);
            }
            if (stations > 0) {
                x.addCar(1);
                x.tick(stations);
                Check.same("promise 15: the last station", x.carAt(stations - 1), 0);
                Check.isTrue("promise 25: the last station", x.hasFault(0, stations - 1));
                Check.same("promise 26: the last station", x.lacks(stations - 1), 1);
                Check.same("promise 28: the last station", x.onShelf(stations - 1), 0);
            }
            int last = stations - 1;
            refused("promise 7: station", x, MISSING, 0, last, station -> x.fault(0, station));
            refused("promise 15: station", x, MISSING, 0, last, station -> x.carAt(station));
            refused("promise 25: station", x, MISSING, 0, last, station -> x.hasFault(0, station));
            refused("promise 26: station", x, MISSING, 0, last, station -> x.lacks(station));
            refused("promise 28: station", x, MISSING, 0, last, station -> x.onShelf(station));
        }
    }

    /** Cars that wait, loop and have left, some of each. */
    private static void places() {
        Lineclock x = new Lineclock();
        allPlaces(x);
        x.addStation(1, -1, 0, 0);
        x.addStation(9, 0, 1, 4);
        allPlaces(x);
        for (int i = 0; i < 6; i++) {
            x.addCar(i < 2 ? 0 : 1);
        }
        allPlaces(x);
        x.tick(25);
        Check.same("promise 21: two passed", x.left(), 2);
        Check.same("promise 19: two in the loop", x.looped(), 2);
        Check.same("promise 17: none waits", x.waiting(), 0);
        x.addCar(0);
        allPlaces(x);
    }

    private static void allPlaces(Lineclock x) {
        refused("promise 18: place", x, PLACE, 0, x.waiting() - 1, place -> x.waitingAt(place));
        refused("promise 20: place", x, PLACE, 0, x.looped() - 1, place -> x.loopedAt(place));
        refused("promise 22: place", x, PLACE, 0, x.left() - 1, place -> x.leftAt(place));
    }

    /** Also past the length that the text once had room for. */
    private static void traceIndexes() {
        Lineclock x = new Lineclock();
        x.addStation(1, 0, 1, 4);
        x.addCar(1);
        refused("promise 35: index, empty", x, PLACE, 0, -1, index -> x.traceAt(0, index));
        for (int i = 0; i < 50; i++) {
            x.tick(1);
            int length = 2 + i * 3;
            Check.same("promise 34: after tick " + (i + 1), x.traceLength(0), length);
            Check.same("promise 35: the last one", x.traceAt(0, length - 1), '-');
            Check.same("promise 35: the first one", x.traceAt(0, 0), '0');
            Check.fails("promise 35: one too far", x, PLACE, () -> x.traceAt(0, length));
        }
        refused("promise 35: index", x, PLACE, 0, x.traceLength(0) - 1, index -> x.traceAt(0, index));
    }

    private static void signs() {
        Lineclock x = new Lineclock();
        for (int code = 0; code <= 65535; code++) {
            char sign = (char) code;
            if ("+-.Lx".indexOf(sign) >= 0) {
                Check.same("promise 36: sign " + code, x.countOf(sign), 0);
            } else {
                Check.fails("promise 36: sign " + code, x, ARGUMENT, () -> x.countOf(sign));
            }
        }
    }
}
