import java.util.List;

/**
 * Many runs of 512 calls of every method, with arguments that are often just wrong, on the class and on the
 * model; each answer or exception is compared. What the model is due to answer stands here, one method each.
 */
public final class CallsTest {
    private static final int RUNS = 600;
    private static final int CALLS = 512;
    private static final int METHODS = 38;

    private static final String I = "IllegalArgumentException";
    private static final String S = "IllegalStateException";
    private static final String N = "NoSuchElementException";
    private static final String U = "UnsupportedOperationException";
    private static final String P = "IndexOutOfBoundsException";
    private static final String A = "ArithmeticException";

    private long seed;
    private final Lineclock x = new Lineclock();
    private final Model m = new Model();

    private CallsTest(long seed) {
        this.seed = seed;
    }

    public static void main(String[] args) {
        for (int run = 1; run <= RUNS; run++) {
            new CallsTest(run * 104729L).run(run);
        }
        Check.end();
    }

    private int pick(int bound) {
        seed = seed * 6364136223846793005L + 1442695040888963407L;
        return (int) ((seed >>> 33) % bound);
    }

    /** From one below the lowest to one above the highest; seldom far from both. */
    private int near(int lowest, int highest) {
        if (pick(60) == 0) {
            return new int[] {Integer.MIN_VALUE, Integer.MAX_VALUE, -100, 100, 256, 65536}[pick(6)];
        }
        return lowest - 1 + pick(highest - lowest + 3);
    }

    private void run(int run) {
        int first = pick(9);
        for (int i = 0; i < first; i++) {
            addStation(run, i);
        }
        int longest = run % 3 == 0 ? 60 : 3;
        for (int call = first; call < CALLS; call++) {
            int method = pick(3) == 0 ? pick(8) : pick(METHODS);
            doCall(run, call, method, longest);
        }
    }

    private void same(int run, int call, String what, Check.Call got, String due) {
        Check.same("run " + run + ", call " + call + ", " + what, Snapshot.answer(got), due);
    }

    private static boolean isWithin(int value, int lowest, int highest) {
        return value >= lowest && value <= highest;
    }

    private boolean isCar(int car) {
        return isWithin(car, 0, m.all.size() - 1);
    }

    private boolean isStation(int station) {
        return isWithin(station, 0, m.line.size() - 1);
    }

    private void doCall(int run, int call, int method, int longest) {
        if (method < 8) {
            change(run, call, method, longest);
        } else if (method < 20) {
            askWhere(run, call, method);
        } else if (method < 30) {
            askStock(run, call, method);
        } else {
            askSums(run, call, method);
        }
    }

    private void change(int run, int call, int method, int longest) {
        switch (method) {
            case 0 -> addStation(run, call);
            case 1 -> supply(run, call);
            case 2 -> setPeriod(run, call);
            case 3 -> addCar(run, call);
            case 4 -> swap(run, call);
            case 5 -> fault(run, call);
            default -> tick(run, call, longest);
        }
    }

    private void addStation(int run, int call) {
        int takt = near(1, 9);
        int part = pick(3) == 0 ? -1 : near(-1, 5);
        int amount = near(1, 4);
        int room = pick(2) == 0 ? near(4, 30) : near(4, 5);
        String due = "" + m.line.size();
        boolean wrongPart = part != -1 && !(isWithin(amount, 1, 4) && isWithin(room, 4, 30));
        if (!isWithin(takt, 1, 9) || !isWithin(part, -1, 5) || wrongPart) {
            due = I;
        } else if (m.line.size() == 8 || m.now > 0) {
            due = S;
        } else {
            Model.Place p = new Model.Place();
            p.takt = takt;
            p.part = part;
            p.amount = amount;
            p.room = room;
            m.line.add(p);
        }
        same(run, call, "addStation", () -> x.addStation(takt, part, amount, room), due);
    }

    private void supply(int run, int call) {
        int part = near(0, 5);
        int units = pick(2) == 0 ? near(1, 99) : near(1, 8);
        String due = !isWithin(part, 0, 5) ? N : !isWithin(units, 1, 99) ? I : m.store[part] + units > 999 ? S : "";
        if (due.isEmpty()) {
            m.store[part] += units;
            due = "" + m.store[part];
        }
        String answer = due;
        same(run, call, "supply", () -> x.supply(part, units), answer);
    }

    private void setPeriod(int run, int call) {
        int ticks = pick(2) == 0 ? near(1, 60) : near(1, 5);
        String due = isWithin(ticks, 1, 60) ? "" + m.period : I;
        m.period = isWithin(ticks, 1, 60) ? ticks : m.period;
        same(run, call, "setPeriod", () -> x.setPeriod(ticks), due);
    }

    private void addCar(int run, int call) {
        int wants = near(0, 63);
        String due = "" + m.all.size();
        if (!isWithin(wants, 0, 63)) {
            due = I;
        } else if (m.all.size() == 30 || m.line.isEmpty()) {
            due = S;
        } else {
            Model.Wagon w = new Model.Wagon();
            w.wants = wants;
            m.all.add(w);
            m.waiting.add(w);
        }
        same(run, call, "addCar", () -> x.addCar(wants), due);
    }

    private void swap(int run, int call) {
        int car = near(0, m.all.size() - 1);
        int other = near(0, m.all.size() - 1);
        String due;
        if (!isCar(car) || !isCar(other)) {
            due = N;
        } else if (car == other) {
            due = I;
        } else if (m.all.get(car).state != 'w' || m.all.get(other).state != 'w') {
            due = S;
        } else {
            int one = m.waiting.indexOf(m.all.get(car));
            int two = m.waiting.indexOf(m.all.get(other));
            m.waiting.set(two, m.all.get(car));
            m.waiting.set(one, m.all.get(other));
            due = "" + two;
        }
        same(run, call, "swap", () -> x.swap(car, other), due);
    }

    private void fault(int run, int call) {
        int car = near(0, m.all.size() - 1);
        int station = near(0, m.line.size() - 1);
        String due;
        if (!isCar(car) || !isStation(station)) {
            due = N;
        } else if (!m.mayTellFault(m.all.get(car), station)) {
            due = S;
        } else if (!m.all.get(car).faults.add(station)) {
            due = U;
        } else {
            due = "" + m.all.get(car).faults.size();
        }
        same(run, call, "fault", () -> x.fault(car, station), due);
    }

    private void tick(int run, int call, int longest) {
        int ticks = near(1, longest);
        String due;
        if (!isWithin(ticks, 1, 60)) {
            due = I;
        } else if (m.line.isEmpty() || m.now + ticks > 9999) {
            due = S;
        } else {
            int before = m.left.size();
            for (int i = 0; i < ticks; i++) {
                m.tick();
            }
            due = "" + (m.left.size() - before);
        }
        same(run, call, "tick", () -> x.tick(ticks), due);
    }

    private void askWhere(int run, int call, int method) {
        int car = near(0, m.all.size() - 1);
        Model.Wagon w = isCar(car) ? m.all.get(car) : null;
        boolean stands = w != null && w.state == 's';
        switch (method) {
            case 8 -> same(run, call, "now", () -> x.now(), "" + m.now);
            case 9 -> same(run, call, "stations", () -> x.stations(), "" + m.line.size());
            case 10 -> same(run, call, "cars", () -> x.cars(), "" + m.all.size());
            case 11 -> same(run, call, "stateOf", () -> x.stateOf(car), w == null ? N : "" + w.state);
            case 12 -> same(run, call, "stationOf", () -> x.stationOf(car),
                    w == null ? N : stands ? "" + m.placeOf(w) : S);
            case 13 -> same(run, call, "toGo", () -> x.toGo(car), w == null ? N : stands ? "" + w.togo : S);
            case 14 -> carAt(run, call);
            case 15 -> same(run, call, "isBack", () -> x.isBack(car), w == null ? N : "" + (stands && w.back));
            case 16 -> same(run, call, "waiting", () -> x.waiting(), "" + m.waiting.size());
            case 17 -> same(run, call, "looped", () -> x.looped(), "" + m.loop.size());
            case 18 -> same(run, call, "left", () -> x.left(), "" + m.left.size());
            default -> askPlace(run, call);
        }
    }

    private void carAt(int run, int call) {
        int station = near(0, m.line.size() - 1);
        String due = N;
        if (isStation(station)) {
            Model.Wagon there = m.line.get(station).wagon;
            due = there == null ? S : "" + m.all.indexOf(there);
        }
        same(run, call, "carAt", () -> x.carAt(station), due);
    }

    private void askPlace(int run, int call) {
        int waits = near(0, m.waiting.size() - 1);
        same(run, call, "waitingAt", () -> x.waitingAt(waits), place(m.waiting, waits));
        int loops = near(0, m.loop.size() - 1);
        same(run, call, "loopedAt", () -> x.loopedAt(loops), place(m.loop, loops));
        int gone = near(0, m.left.size() - 1);
        same(run, call, "leftAt", () -> x.leftAt(gone), place(m.left, gone));
    }

    private String place(List<Model.Wagon> row, int place) {
        return isWithin(place, 0, row.size() - 1) ? "" + m.all.indexOf(row.get(place)) : P;
    }

    private void askStock(int run, int call, int method) {
        int car = near(0, m.all.size() - 1);
        Model.Wagon w = isCar(car) ? m.all.get(car) : null;
        int station = near(0, m.line.size() - 1);
        boolean isThere = isStation(station);
        int part = near(0, 5);
        boolean isPart = isWithin(part, 0, 5);
        switch (method) {
            case 20 -> same(run, call, "leftIn", () -> x.leftIn(car),
                    w == null ? N : w.state == 'd' ? "" + w.last : S);
            case 21 -> same(run, call, "faults", () -> x.faults(car), w == null ? N : "" + w.faults.size());
            case 22 -> same(run, call, "hasFault", () -> x.hasFault(car, station),
                    w == null || !isThere ? N : "" + w.faults.contains(station));
            case 23 -> same(run, call, "lacks", () -> x.lacks(station), isThere ? "" + m.lacksAt(station) : N);
            case 24 -> same(run, call, "lacksOf", () -> x.lacksOf(part), isPart ? "" + m.lacksOfPart(part) : N);
            case 25 -> same(run, call, "onShelf", () -> x.onShelf(station),
                    isThere ? "" + m.line.get(station).shelf : N);
            case 26 -> same(run, call, "inStore", () -> x.inStore(part), isPart ? "" + m.store[part] : N);
            case 27 -> nextRound(run, call);
            case 28 -> leaving(run, call, car, w);
            default -> nextToLeave(run, call);
        }
    }

    private void nextRound(int run, int call) {
        int ticks = 1;
        while ((m.now + ticks) % m.period != 0) {
            ticks++;
        }
        same(run, call, "nextRound", () -> x.nextRound(), "" + ticks);
    }

    private void leaving(int run, int call, int car, Model.Wagon w) {
        String due = w == null ? N : S;
        if (w != null && w.state != 'd') {
            int ticks = m.leavesIn(car);
            due = ticks < 0 ? U : "" + ticks;
        }
        same(run, call, "leavesIn", () -> x.leavesIn(car), due);
        same(run, call, "leavesByTicks", () -> x.leavesByTicks(car), due);
    }

    private void nextToLeave(int run, int call) {
        int next = m.nextToLeave();
        same(run, call, "nextToLeave", () -> x.nextToLeave(), next < 0 ? N : "" + next);
    }

    private void askSums(int run, int call, int method) {
        int car = near(0, m.all.size() - 1);
        Model.Wagon w = isCar(car) ? m.all.get(car) : null;
        int entered = m.count('+') + m.count('-') + m.count('.');
        switch (method) {
            case 30, 31 -> same(run, call, "traceLength", () -> x.traceLength(car),
                    w == null ? N : "" + w.trace.length());
            case 32, 33 -> traceAt(run, call, car, w);
            case 34 -> countOf(run, call);
            case 35 -> same(run, call, "fitted", () -> x.fitted(), "" + m.units);
            case 36 -> same(run, call, "lackShare", () -> x.lackShare(),
                    entered == 0 ? A : "" + (float) m.count('-') / (float) entered);
            default -> meanTime(run, call);
        }
    }

    private void traceAt(int run, int call, int car, Model.Wagon w) {
        int length = w == null ? 5 : w.trace.length();
        int index = near(0, length - 1);
        String due = w == null ? N : isWithin(index, 0, length - 1) ? "" + w.trace.charAt(index) : P;
        same(run, call, "traceAt", () -> x.traceAt(car, index), due);
    }

    private void countOf(int run, int call) {
        char sign = "+-.Lx0lX ".charAt(pick(9));
        same(run, call, "countOf", () -> x.countOf(sign), "+-.Lx".indexOf(sign) < 0 ? I : "" + m.count(sign));
    }

    private void meanTime(int run, int call) {
        int sum = 0;
        for (Model.Wagon w : m.left) {
            sum += w.last - w.first;
        }
        String due = m.left.isEmpty() ? A : "" + (double) sum / (double) m.left.size();
        same(run, call, "meanTime", () -> x.meanTime(), due);
    }
}
