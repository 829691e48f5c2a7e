import java.util.NoSuchElementException;

/** Promises 34 to 39: traces, and the sums and means over them. */
public final class TraceTest {
    private static final Class<IllegalArgumentException> ARGUMENT = IllegalArgumentException.class;
    private static final Class<NoSuchElementException> MISSING = NoSuchElementException.class;
    private static final Class<IndexOutOfBoundsException> PLACE = IndexOutOfBoundsException.class;
    private static final Class<ArithmeticException> ARITHMETIC = ArithmeticException.class;

    public static void main(String[] args) {
        traces();
        longTrace();
        countOf();
        fitted();
        lackShare();
        meanTime();
        Check.end();
    }

    /** The example of the document: "0+1-2.L1+x". */
    private static Lineclock example() {
        Lineclock x = new Lineclock();
        x.addStation(1, -1, 0, 0);
        x.addStation(1, 0, 3, 4);
        x.addStation(1, 1, 1, 4);
        x.addCar(1);
        x.supply(0, 5);
        x.setPeriod(4);
        return x;
    }

    private static void traces() {
        Lineclock x = example();
        Check.same("promise 34: empty", x.traceLength(0), 0);
        Check.fails("promise 35: empty", x, PLACE, () -> x.traceAt(0, 0));
        x.tick(1);
        Check.same("promise 34: two characters", x.traceLength(0), 2);
        x.tick(9);
        String due = "0+1-2.L1+x";
        Check.same("promise 34: ten characters", x.traceLength(0), due.length());
        for (int i = 0; i < due.length(); i++) {
            Check.same("promise 35: character " + i, x.traceAt(0, i), due.charAt(i));
        }
        Check.fails("promise 35: index 10", x, PLACE, () -> x.traceAt(0, 10));
        Check.fails("promise 35: index -1", x, PLACE, () -> x.traceAt(0, -1));
        Check.fails("promise 35: no such car", x, MISSING, () -> x.traceAt(1, 0));
        Check.fails("promise 35: car -1", x, MISSING, () -> x.traceAt(-1, 0));
        Check.fails("promise 35: the car goes before the index", x, MISSING, () -> x.traceAt(1, -1));
        Check.fails("promise 34: no such car", x, MISSING, () -> x.traceLength(1));
        Check.fails("promise 34: car -1", x, MISSING, () -> x.traceLength(-1));
        Lineclock y = new Lineclock();
        for (int i = 0; i < 8; i++) {
            y.addStation(1, -1, 0, 0);
        }
        y.addCar(0);
        y.tick(9);
        Check.same("promise 35: all stations", Snapshot.trace(y, 0), "0+1+2+3+4+5+6+7+x");
    }

    /** The longest trace there can be: three characters in each tick. */
    private static void longTrace() {
        Lineclock x = new Lineclock();
        x.addStation(1, 0, 1, 4);
        x.addCar(1);
        for (int i = 0; i < 166; i++) {
            x.tick(60);
        }
        x.tick(38);
        Check.same("promise 34: 9998 ticks", x.traceLength(0), 2 + 9997 * 3);
        x.supply(0, 1);
        x.setPeriod(1);
        x.tick(1);
        Check.same("promise 34: 9999 ticks", x.traceLength(0), 2 + 9998 * 3);
        Check.same("promise 36: each time round", x.countOf('L'), 9998);
        Check.same("promise 36: all lacks", x.countOf('-'), 9998);
        Check.same("promise 35: the first station", x.traceAt(0, 0), '0');
        Check.same("promise 35: the first sign", x.traceAt(0, 1), '-');
        for (int i = 0; i < 9997; i++) {
            int start = 2 + i * 3;
            if (x.traceAt(0, start) != 'L' || x.traceAt(0, start + 1) != '0' || x.traceAt(0, start + 2) != '-') {
                Check.isTrue("promise 35: the trace from " + start, false);
            }
        }
        Check.same("promise 35: the last sign", x.traceAt(0, 2 + 9998 * 3 - 1), '+');
    }

    private static void countOf() {
        Lineclock x = example();
        x.addCar(2);
        for (char sign : "+-.Lx".toCharArray()) {
            Check.same("promise 36: none of " + sign, x.countOf(sign), 0);
        }
        x.tick(4);
        Check.same("promise 36: the first one", Snapshot.trace(x, 0), "0+1-2.L1+");
        Check.same("promise 36: the second one", Snapshot.trace(x, 1), "0+1.2-");
        Check.same("promise 36: +", x.countOf('+'), 3);
        Check.same("promise 36: -", x.countOf('-'), 2);
        Check.same("promise 36: .", x.countOf('.'), 2);
        Check.same("promise 36: L", x.countOf('L'), 1);
        Check.same("promise 36: x", x.countOf('x'), 0);
        x.tick(2);
        Check.same("promise 36: x", x.countOf('x'), 1);
        Check.same("promise 36: + as before", x.countOf('+'), 3);
        Check.same("promise 36: - of all cars", x.countOf('-'), 4);
        Check.same("promise 36: L of all cars", x.countOf('L'), 3);
        for (char sign : "01234567Xl,*d ".toCharArray()) {
            Check.fails("promise 36: no sign " + sign, x, ARGUMENT, () -> x.countOf(sign));
        }
        Check.fails("promise 36: no sign 0", x, ARGUMENT, () -> x.countOf((char) 0));
        Check.fails("promise 36: no sign 65535", x, ARGUMENT, () -> x.countOf((char) 65535));
        Check.fails("promise 36: no sign 256 + '+'", x, ARGUMENT, () -> x.countOf((char) (256 + '+')));
    }

    private static void fitted() {
        Lineclock x = example();
        Check.same("promise 37: none", x.fitted(), 0L);
        x.tick(3);
        Check.same("promise 37: no units at a station without a part", x.fitted(), 0L);
        x.tick(1);
        Check.same("promise 37: the amount", x.fitted(), 3L);
        x.fault(0, 0);
        x.tick(2);
        Check.same("promise 37: no units where the car wants none", Snapshot.trace(x, 0), "0+1-2.L1+L0+x");
        Check.same("promise 37: still three", x.fitted(), 3L);
        Lineclock y = new Lineclock();
        y.addStation(1, 0, 4, 30);
        y.addStation(1, 1, 2, 30);
        y.supply(0, 99);
        y.supply(1, 99);
        y.setPeriod(1);
        for (int i = 0; i < 5; i++) {
            y.addCar(3);
        }
        y.tick(60);
        Check.same("promise 37: all stations", y.fitted(), 30L);
    }

    private static void lackShare() {
        Lineclock x = example();
        Check.fails("promise 38: nobody has entered", x, ARITHMETIC, () -> x.lackShare());
        x.tick(1);
        Check.same("promise 38: no lack", x.lackShare(), 0.0f);
        x.tick(1);
        Check.same("promise 38: a half", x.lackShare(), 0.5f);
        x.tick(1);
        Check.same("promise 38: a third, with the one that it passed", x.lackShare(), 1.0f / 3.0f);
        x.tick(2);
        Check.same("promise 38: a quarter, without L and x", x.lackShare(), 0.25f);
        Check.fails("promise 38: no station", new Lineclock(), ARITHMETIC, () -> new Lineclock().lackShare());
    }

    private static void meanTime() {
        Lineclock x = new Lineclock();
        Check.fails("promise 39: no station", x, ARITHMETIC, () -> x.meanTime());
        x.addStation(1, -1, 0, 0);
        x.addStation(2, -1, 0, 0);
        x.tick(5);
        x.addCar(0);
        x.addCar(0);
        x.addCar(0);
        x.tick(1);
        Check.fails("promise 39: none has left", x, ARITHMETIC, () -> x.meanTime());
        x.tick(3);
        Check.same("promise 39: from tick 6 to 9", x.meanTime(), 3.0);
        x.tick(2);
        Check.same("promise 39: and from 7 to 11", x.meanTime(), 3.5);
        x.tick(2);
        Check.same("promise 39: and from 9 to 13", x.meanTime(), 11.0 / 3.0);
        Lineclock y = example();
        y.tick(5);
        Check.same("promise 39: the first time at station 0", y.meanTime(), 4.0);
        Lineclock z = new Lineclock();
        z.addStation(1, 0, 1, 4);
        z.addCar(1);
        z.supply(0, 1);
        z.tick(60);
        Check.same("promise 39: the first time, not the last one", z.meanTime(), 10.0);
    }
}
