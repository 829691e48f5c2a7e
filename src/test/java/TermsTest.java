import java.util.NoSuchElementException;

/** The document's terms, sentence by sentence: what just happens, and what just does not. */
public final class TermsTest {
    private static final Class<NoSuchElementException> MISSING = NoSuchElementException.class;
    private static final Class<UnsupportedOperationException> LATE = UnsupportedOperationException.class;

    public static void main(String[] args) {
        orderOfTheLine();
        newCarsAreLast();
        oneFaultAtEach();
        oneCarAtEach();
        amountOnTheShelf();
        unwantedPart();
        ticksToGo();
        fittedClosesOneFault();
        roundsAtMultiples();
        newPeriodAtAMultiple();
        roundsAsFarAsThereAreUnits();
        lessToGoIfAny();
        nextStationOrStay();
        lastStation();
        throughTheLoopLeavesAnywhere();
        throughTheLoopBecomesTheLast();
        lowestFaultAlone();
        loopInOneTick();
        firstThatWaits();
        neverWithAnOpenFault();
        traceSigns();
        horizonAlongTheLine();
        horizonByRounds();
        timeFromTheFirstEntry();
        Check.end();
    }

    private static void expectTrace(String what, Lineclock x, int car, String due) {
        Check.same("terms: " + what, Snapshot.trace(x, car), due);
    }

    private static Lineclock plain(int... takts) {
        Lineclock x = new Lineclock();
        for (int takt : takts) {
            x.addStation(takt, -1, 0, 0);
        }
        return x;
    }

    private static void addCars(Lineclock x, int count, int wants) {
        for (int i = 0; i < count; i++) {
            x.addCar(wants);
        }
    }

    private static void orderOfTheLine() {
        for (int count = 1; count <= 8; count++) {
            Lineclock x = new Lineclock();
            StringBuilder due = new StringBuilder();
            for (int i = 0; i < count; i++) {
                Check.same("terms: stations: from 0", x.addStation(1, -1, 0, 0), i);
                due.append(i).append('+');
            }
            x.addCar(0);
            x.tick(count);
            expectTrace("stations: the order of the line", x, 0, due.toString());
            Check.same("terms: stations: it leaves after the last one", x.tick(1), 1);
        }
    }

    private static void newCarsAreLast() {
        Lineclock x = plain(9);
        addCars(x, 3, 0);
        x.swap(0, 2);
        Check.same("terms: cars: a new one", x.addCar(0), 3);
        Check.same("terms: cars: is the last", x.waitingAt(3), 3);
        x.tick(1);
        x.swap(1, 3);
        x.addCar(0);
        Check.same("terms: cars: the order", "" + x.waitingAt(0) + x.waitingAt(1) + x.waitingAt(2) + x.waitingAt(3),
                "3014");
    }

    private static void oneFaultAtEach() {
        Lineclock x = new Lineclock();
        x.addStation(1, 0, 1, 4);
        x.addCar(1);
        for (int i = 1; i <= 5; i++) {
            x.tick(1);
            Check.same("terms: cars: at most one open fault at each", x.faults(0), 1);
            Check.same("terms: cars: though it was not fitted again", x.lacks(0), i);
        }
    }

    private static void oneCarAtEach() {
        Lineclock x = plain(3, 1);
        addCars(x, 4, 0);
        for (int i = 0; i < 20; i++) {
            x.tick(1);
            int standing = 0;
            for (int car = 0; car < 4; car++) {
                if (x.stateOf(car) == 's') {
                    standing++;
                    Check.same("terms: entering: alone at its station", x.carAt(x.stationOf(car)), car);
                }
            }
            Check.isTrue("terms: entering: at most one at each", standing <= 2);
        }
    }

    /** Each amount with each number of parts on the shelf: just enough is enough, one less takes nothing. */
    private static void amountOnTheShelf() {
        for (int amount = 1; amount <= 4; amount++) {
            for (int parts = 0; parts <= 6; parts++) {
                Lineclock x = new Lineclock();
                x.addStation(3, 4, amount, 9);
                x.setPeriod(1);
                if (parts > 0) {
                    x.supply(4, parts);
                }
                x.addCar(16);
                x.tick(1);
                boolean enough = parts >= amount;
                String what = "entering: " + parts + " parts for the amount " + amount;
                expectTrace(what, x, 0, enough ? "0+" : "0-");
                Check.same("terms: " + what, x.onShelf(0), enough ? parts - amount : parts);
                Check.same("terms: " + what, x.fitted(), enough ? (long) amount : 0L);
                Check.same("terms: " + what, x.hasFault(0, 0), !enough);
                Check.same("terms: " + what, x.faults(0), enough ? 0 : 1);
                Check.same("terms: " + what, x.lacks(0), enough ? 0 : 1);
                Check.same("terms: " + what, x.lacksOf(4), enough ? 0 : 1);
                Check.same("terms: " + what, x.toGo(0), 3);
            }
        }
    }

    /** A car that does not want the part: it passes along the line, is fitted through the loop, and takes nothing. */
    private static void unwantedPart() {
        for (int parts : new int[] {0, 1, 9}) {
            Lineclock x = new Lineclock();
            x.addStation(5, 2, 2, 9);
            x.addStation(1, -1, 0, 0);
            x.setPeriod(1);
            if (parts > 0) {
                x.supply(2, parts);
            }
            x.addCar(63 - 4);
            x.tick(1);
            expectTrace("entering: passes", x, 0, "0.");
            Check.same("terms: entering: one tick", x.toGo(0), 1);
            Check.same("terms: entering: nothing is taken by passing", x.onShelf(0), parts);
            x.tick(1);
            x.fault(0, 0);
            x.tick(1);
            expectTrace("entering: fitted through the loop", x, 0, "0.1+L0+");
            Check.same("terms: entering: the takt", x.toGo(0), 5);
            Check.same("terms: entering: nothing is taken through the loop", x.onShelf(0), parts);
            Check.same("terms: entering: nothing at all", x.fitted(), 0L);
            Check.same("terms: entering: the fault is closed", x.faults(0), 0);
            Check.same("terms: entering: it leaves", x.tick(5), 1);
        }
    }

    private static void ticksToGo() {
        for (int takt = 1; takt <= 9; takt++) {
            Lineclock x = new Lineclock();
            x.addStation(takt, 0, 4, 4);
            x.addStation(1, -1, 0, 0);
            x.supply(0, 4);
            x.tick(10);
            x.addCar(1);
            x.addCar(1);
            x.addCar(0);
            x.tick(1);
            Check.same("terms: entering: fitted, takt " + takt, x.toGo(0), takt);
            x.tick(takt);
            expectTrace("entering: not fitted", x, 1, "0-");
            Check.same("terms: entering: not fitted, takt " + takt, x.toGo(1), takt);
            x.tick(takt);
            expectTrace("entering: passes", x, 2, "0.");
            Check.same("terms: entering: passes, takt " + takt, x.toGo(2), 1);
            x.tick(1);
            expectTrace("entering: through the loop, not fitted", x, 1, "0-1+L0-");
            Check.same("terms: entering: through the loop, not fitted, takt " + takt, x.toGo(1), takt);
            x.supply(0, 4);
            x.setPeriod(1);
            x.tick(takt);
            expectTrace("entering: through the loop, fitted", x, 1, "0-1+L0-L0+");
            Check.same("terms: entering: through the loop, fitted, takt " + takt, x.toGo(1), takt);
        }
    }

    private static void fittedClosesOneFault() {
        Lineclock x = plain(1, 1, 1);
        x.addCar(0);
        x.tick(3);
        x.fault(0, 0);
        x.fault(0, 1);
        x.tick(1);
        Check.isTrue("terms: entering: fitted at 0", !x.hasFault(0, 0));
        Check.isTrue("terms: entering: the fault at 1 is still open", x.hasFault(0, 1));
        Check.same("terms: entering: one", x.faults(0), 1);
    }

    private static void roundsAtMultiples() {
        for (int period = 1; period <= 12; period++) {
            Lineclock x = new Lineclock();
            x.addStation(9, 0, 1, 4);
            x.setPeriod(period);
            int due = 0;
            for (int now = 1; now <= 40; now++) {
                x.supply(0, 4);
                int store = x.inStore(0);
                x.tick(1);
                boolean isRound = now % period == 0;
                Check.same("terms: ticks: a round, or none, in " + now, store - x.inStore(0),
                        isRound ? 4 - due : 0);
                due = isRound ? 4 : due;
                Check.same("terms: ticks: the shelf in " + now, x.onShelf(0), due);
                Check.same("promise 30: the next one", x.nextRound(), period - now % period);
            }
        }
    }

    /** The number of ticks is a multiple of the new period already: the next round is a whole period later. */
    private static void newPeriodAtAMultiple() {
        Lineclock x = new Lineclock();
        x.addStation(1, 0, 1, 4);
        x.supply(0, 9);
        x.tick(6);
        for (int period : new int[] {1, 2, 3, 6}) {
            x.setPeriod(period);
            Check.same("promise 30: not at once", x.nextRound(), period);
            Check.same("promise 4: nothing is filled by it", x.onShelf(0), 0);
        }
        x.setPeriod(7);
        Check.same("promise 30: in the next tick", x.nextRound(), 1);
        x.setPeriod(5);
        Check.same("promise 30: 10 is the next multiple of 5", x.nextRound(), 4);
        x.setPeriod(60);
        Check.same("promise 30: 60 is the next multiple of 60", x.nextRound(), 54);
        x.tick(53);
        Check.same("terms: ticks: no round before 60", x.onShelf(0), 0);
        x.tick(1);
        Check.same("terms: ticks: a round in 60", x.onShelf(0), 4);
        Check.same("promise 30: the next one in 120", x.nextRound(), 60);
    }

    /** Three shelves of one part with room for 4, 5 and 6 share what the store has, the first one first. */
    private static void roundsAsFarAsThereAreUnits() {
        for (int units = 0; units <= 17; units++) {
            Lineclock x = new Lineclock();
            x.addStation(1, 3, 1, 4);
            x.addStation(1, -1, 1, 9);
            x.addStation(1, 3, 1, 5);
            x.addStation(1, 2, 1, 9);
            x.addStation(1, 3, 1, 6);
            if (units > 0) {
                x.supply(3, units);
            }
            x.tick(10);
            int first = Math.min(units, 4);
            int second = Math.min(units - first, 5);
            int third = Math.min(units - first - second, 6);
            Check.same("terms: ticks: the first of " + units, x.onShelf(0), first);
            Check.same("terms: ticks: the second of " + units, x.onShelf(2), second);
            Check.same("terms: ticks: the third of " + units, x.onShelf(4), third);
            Check.same("terms: ticks: another part of " + units, x.onShelf(3) + x.onShelf(1), 0);
            Check.same("terms: ticks: the rest of " + units, x.inStore(3), units - first - second - third);
        }
    }

    private static void lessToGoIfAny() {
        Lineclock x = plain(2, 9);
        addCars(x, 2, 0);
        x.tick(3);
        Check.same("terms: ticks: two to go", x.toGo(1), 2);
        x.tick(1);
        Check.same("terms: ticks: one to go", x.toGo(1), 1);
        for (int i = 0; i < 7; i++) {
            x.tick(1);
            Check.same("terms: ticks: none to go, and not less than none", x.toGo(1), 0);
            Check.same("terms: ticks: the one ahead", x.toGo(0), 7 - i);
        }
        x.tick(1);
        Check.same("terms: ticks: it goes on in the tick in which the next station is free", x.stationOf(1), 1);
    }

    /** The next station alone counts: a car does not go by a taken one, though those behind it are free. */
    private static void nextStationOrStay() {
        Lineclock x = plain(1, 5, 1, 1);
        addCars(x, 2, 0);
        x.tick(6);
        Check.same("terms: ticks: it stays", x.stationOf(1), 0);
        Check.same("terms: ticks: held up by the first one", x.stationOf(0), 1);
        x.tick(1);
        Check.same("terms: ticks: both go on", x.stationOf(0) * 10 + x.stationOf(1), 21);
        x.tick(1);
        Check.same("terms: ticks: one station in each tick", x.stationOf(0) * 10 + x.stationOf(1), 31);
        x.tick(1);
        Check.same("terms: ticks: it leaves from the last one alone", "" + x.stateOf(0) + x.stateOf(1), "ds");
    }

    private static void lastStation() {
        for (int count = 1; count <= 8; count++) {
            Lineclock x = new Lineclock();
            Lineclock y = new Lineclock();
            for (int i = 0; i < count; i++) {
                x.addStation(1, 0, 1, 4);
                y.addStation(1, -1, 0, 0);
            }
            x.addCar(1);
            y.addCar(1);
            x.tick(count);
            y.tick(count);
            Check.same("terms: ticks: at the last station", x.stationOf(0), count - 1);
            Check.same("terms: ticks: with open faults it does not leave", x.tick(1), 0);
            Check.same("terms: ticks: but comes into the loop", x.countOf('L'), 1);
            Check.isTrue("terms: ticks: and out of it at station 0", x.isBack(0) && x.stationOf(0) == 0);
            Check.same("terms: ticks: without open faults it leaves", y.tick(1), 1);
            Check.same("terms: ticks: and never is in the loop", y.countOf('L'), 0);
        }
    }

    private static void throughTheLoopLeavesAnywhere() {
        for (int at = 0; at < 4; at++) {
            Lineclock x = plain(1, 1, 1, 1, 9);
            x.addCar(0);
            x.tick(5);
            x.fault(0, at);
            x.tick(9);
            expectTrace("ticks: back at " + at, x, 0, "0+1+2+3+4+L" + at + "+");
            Check.isTrue("terms: ticks: through the loop", x.isBack(0));
            Check.same("terms: ticks: it leaves from " + at, x.tick(1), 1);
        }
    }

    private static void throughTheLoopBecomesTheLast() {
        Lineclock x = plain(1);
        x.addStation(1, 0, 1, 4);
        addCars(x, 3, 1);
        x.tick(5);
        Check.same("terms: ticks: the loop", x.loopedAt(0) * 10 + x.loopedAt(1), 12);
        x.tick(1);
        Check.same("terms: ticks: not fitted again, it is the last one", x.loopedAt(0) * 10 + x.loopedAt(1), 20);
        x.tick(1);
        Check.same("terms: ticks: and so on", x.loopedAt(0) * 10 + x.loopedAt(1), 1);
    }

    /** Its lowest fault is at station 0, which is taken; that station 1 is free does not help. */
    private static void lowestFaultAlone() {
        Lineclock x = plain(9, 1, 1);
        addCars(x, 2, 0);
        x.tick(11);
        x.fault(0, 0);
        x.fault(0, 1);
        x.tick(1);
        expectTrace("ticks: in the loop", x, 0, "0+1+2+L");
        Check.same("terms: ticks: station 0 is taken", x.carAt(0), 1);
        x.tick(5);
        expectTrace("ticks: still in the loop", x, 0, "0+1+2+L");
        Check.same("terms: ticks: with both faults", x.faults(0), 2);
        Lineclock y = plain(1, 9, 1);
        addCars(y, 2, 0);
        y.tick(11);
        y.fault(0, 0);
        y.fault(0, 1);
        y.tick(1);
        expectTrace("ticks: station 0 is free, station 1 is not", y, 0, "0+1+2+L0+");
        y.tick(1);
        expectTrace("ticks: now station 1 is its lowest fault", y, 0, "0+1+2+L0+L");
    }

    /** Two cars of the loop enter two stations in one tick; the one between them finds its station taken by then. */
    private static void loopInOneTick() {
        Lineclock x = new Lineclock();
        x.addStation(1, 0, 1, 4);
        x.addStation(1, 1, 1, 4);
        addCars(x, 2, 2);
        addCars(x, 1, 1);
        x.tick(4);
        Check.same("terms: ticks: two in the loop", x.loopedAt(0) * 10 + x.loopedAt(1), 1);
        Check.same("terms: ticks: their station is taken", x.carAt(1), 2);
        x.tick(1);
        expectTrace("ticks: the first one enters station 1", x, 0, "0.1-L1-");
        expectTrace("ticks: the second one stays", x, 1, "0.1-L");
        expectTrace("ticks: the third one enters station 0", x, 2, "0-1.L0-");
        Check.same("terms: ticks: one in the loop", x.loopedAt(0) * 10 + x.looped(), 11);
    }

    private static void firstThatWaits() {
        Lineclock x = plain(2, 1);
        addCars(x, 4, 0);
        x.swap(0, 3);
        x.tick(1);
        Check.same("terms: ticks: the first in the order", x.carAt(0), 3);
        Check.same("terms: ticks: only one", x.waiting(), 3);
        x.tick(1);
        Check.same("terms: ticks: not while it is taken", x.waiting(), 3);
        x.tick(1);
        Check.same("terms: ticks: the next one, in the tick in which it is free", x.carAt(0), 1);
        Check.same("terms: ticks: one more", x.waiting(), 2);
        Lineclock y = plain(1);
        y.tick(5);
        y.addCar(0);
        Check.same("terms: ticks: not before a tick", y.stateOf(0), 'w');
        y.tick(1);
        Check.same("terms: ticks: in the next tick", y.stateOf(0), 's');
    }

    private static void neverWithAnOpenFault() {
        Lineclock x = new Lineclock();
        x.addStation(1, 0, 1, 4);
        x.addStation(1, 1, 1, 4);
        addCars(x, 5, 3);
        for (int i = 0; i < 30; i++) {
            Check.same("terms: none leaves with an open fault", x.tick(7), 0);
        }
        x.supply(0, 5);
        x.supply(1, 5);
        x.setPeriod(1);
        Check.same("terms: all leave once they are fitted", x.tick(60), 5);
        for (int car = 0; car < 5; car++) {
            Check.same("terms: none has an open fault", x.faults(car), 0);
        }
    }

    private static void traceSigns() {
        Lineclock x = new Lineclock();
        x.addStation(2, 0, 1, 4);
        x.addCar(1);
        x.addCar(0);
        String[] due = {"0-", "0-", "0-L0-", "0-L0-", "0-L0-L0-"};
        for (int i = 0; i < due.length; i++) {
            x.tick(1);
            expectTrace("traces: tick " + (i + 1), x, 0, due[i]);
            Check.same("promise 34: tick " + (i + 1), x.traceLength(0), due[i].length());
        }
        expectTrace("traces: nothing while it waits", x, 1, "");
        x.setPeriod(1);
        x.supply(0, 1);
        x.tick(2);
        expectTrace("traces: fitted", x, 0, "0-L0-L0-L0+");
        x.tick(2);
        expectTrace("traces: x is the last sign", x, 0, "0-L0-L0-L0+x");
        expectTrace("traces: passed", x, 1, "0.");
        x.tick(60);
        expectTrace("traces: nothing after x", x, 0, "0-L0-L0-L0+x");
    }

    /** The last of 30 cars leaves in 1 + 29 * 9 ticks and the sum of the takts: 300 ticks are within, 301 are not. */
    private static void horizonAlongTheLine() {
        for (int rest = 1; rest <= 9; rest++) {
            for (int more = 0; more <= 5; more++) {
                Lineclock x = more == 0 ? plain(9, 9, 9, rest) : plain(9, 9, 9, rest, more);
                addCars(x, 30, 0);
                int due = 1 + 29 * 9 + 27 + rest + more;
                x.setPeriod(1 + 10 * more);
                if (due <= 300) {
                    Check.same("promise 31: " + due, x.leavesIn(29), due);
                    Check.same("promise 32: " + due, x.leavesByTicks(29), due);
                } else {
                    Check.fails("promise 31: " + due, x, LATE, () -> x.leavesIn(29));
                    Check.fails("promise 32: " + due, x, LATE, () -> x.leavesByTicks(29));
                }
                Check.same("promise 33: the first one all the same", x.nextToLeave(), 0);
            }
        }
    }

    /** A car that goes round and round is fitted when it enters in the tick of the round, or as the first one after it. */
    private static void horizonByRounds() {
        for (int takt = 1; takt <= 9; takt++) {
            Lineclock x = new Lineclock();
            x.addStation(takt, 0, 4, 4);
            x.setPeriod(60);
            x.addCar(1);
            x.supply(0, 3);
            Check.fails("promise 31: three are too few for ever", x, LATE, () -> x.leavesIn(0));
            Check.fails("promise 32: three are too few for ever", x, LATE, () -> x.leavesByTicks(0));
            Check.fails("promise 33: three are too few for ever", x, MISSING, () -> x.nextToLeave());
            x.supply(0, 1);
            int entry = 1;
            while (entry < 60) {
                entry += takt;
            }
            Check.same("promise 31: takt " + takt, x.leavesIn(0), entry + takt);
            Check.same("promise 32: takt " + takt, x.leavesByTicks(0), entry + takt);
            Check.same("promise 33: takt " + takt, x.nextToLeave(), 0);
        }
    }

    /** Ticks of waiting before station 0 do not count, those after it do, whatever happens then. */
    private static void timeFromTheFirstEntry() {
        Lineclock x = plain(4, 2);
        x.tick(7);
        addCars(x, 2, 0);
        x.tick(6);
        Check.same("promise 39: not left yet, though in its last tick", x.left(), 0);
        x.tick(1);
        Check.same("promise 39: from 8 to 14", x.meanTime(), 6.0);
        x.tick(2);
        x.fault(1, 0);
        x.tick(2);
        expectTrace("back", x, 1, "0+1+L0+");
        x.tick(4);
        Check.same("promise 39: from 12 to 22", x.leftIn(1), 22);
        Check.same("promise 39: the mean of 6 and 10", x.meanTime(), 8.0);
    }
}
