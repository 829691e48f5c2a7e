import java.util.ArrayList;
import java.util.List;

/** Many runs of at most 512 calls, on the class and on the model; every answer is compared. */
public final class ModelTest {
    private static final int RUNS = 400;
    private static final int STEPS = 40;

    private long seed;
    private final Lineclock x = new Lineclock();
    private final Model m = new Model();

    private ModelTest(long seed) {
        this.seed = seed;
    }

    public static void main(String[] args) {
        for (int run = 1; run <= RUNS; run++) {
            new ModelTest(run * 7919L).run(run);
        }
        Check.end();
    }

    /** A number from 0 to the bound less 1; the same in each run of the test. */
    private int pick(int bound) {
        seed = seed * 6364136223846793005L + 1442695040888963407L;
        return (int) ((seed >>> 33) % bound);
    }

    private void run(int run) {
        int stations = 1 + pick(run % 2 == 0 ? 8 : 3);
        int longestTakt = 1 + pick(9);
        for (int i = 0; i < stations; i++) {
            addStation(1 + pick(longestTakt));
        }
        for (int i = pick(4); i >= 0; i--) {
            addCar();
        }
        for (int step = 0; step < STEPS; step++) {
            doSomething();
            String what = "promises 8 to 39, run " + run + ", step " + step;
            Check.same(what, Snapshot.of(x), told());
        }
    }

    private void addStation(int takt) {
        Model.Place p = new Model.Place();
        p.takt = takt;
        p.part = pick(4) == 0 ? -1 : pick(3) * 2;
        p.amount = 1 + pick(4);
        p.room = 4 + pick(8);
        x.addStation(p.takt, p.part, p.amount, p.room);
        m.line.add(p);
    }

    private void addCar() {
        if (m.all.size() < 30) {
            Model.Wagon w = new Model.Wagon();
            w.wants = pick(64);
            Check.same("promise 5: addCar", x.addCar(w.wants), m.all.size());
            m.all.add(w);
            m.waiting.add(w);
        }
    }

    private void doSomething() {
        int kind = pick(20);
        if (kind < 3) {
            addCar();
        } else if (kind < 5) {
            supply();
        } else if (kind < 6) {
            int period = 1 + pick(pick(2) == 0 ? 60 : 8);
            Check.same("promise 4: setPeriod", x.setPeriod(period), m.period);
            m.period = period;
        } else if (kind < 9) {
            swap();
        } else if (kind < 13) {
            fault();
        } else {
            tick(1 + pick(pick(3) == 0 ? 30 : 4));
        }
    }

    private void supply() {
        int part = pick(6);
        int units = 1 + pick(12);
        m.store[part] += units;
        Check.same("promise 3: supply", x.supply(part, units), m.store[part]);
    }

    private void swap() {
        int count = m.waiting.size();
        if (count < 2) {
            return;
        }
        int one = pick(count);
        int two = (one + 1 + pick(count - 1)) % count;
        Model.Wagon first = m.waiting.get(one);
        Model.Wagon second = m.waiting.get(two);
        m.waiting.set(one, second);
        m.waiting.set(two, first);
        Check.same("promise 6: swap", x.swap(m.all.indexOf(first), m.all.indexOf(second)), two);
    }

    private void fault() {
        int car = pick(m.all.size());
        int place = pick(m.line.size());
        Model.Wagon w = m.all.get(car);
        String due;
        if (!m.mayTellFault(w, place)) {
            due = "IllegalStateException";
        } else if (!w.faults.add(place)) {
            due = "UnsupportedOperationException";
        } else {
            due = String.valueOf(w.faults.size());
        }
        Check.same("promise 7: fault", Snapshot.answer(() -> x.fault(car, place)), due);
    }

    private void tick(int ticks) {
        int before = m.left.size();
        for (int i = 0; i < ticks; i++) {
            m.tick();
        }
        Check.same("promise 8: tick", x.tick(ticks), m.left.size() - before);
    }

    /** What Snapshot is due to tell, in its words. */
    private String told() {
        StringBuilder text = new StringBuilder();
        int round = 1;
        while ((m.now + round) % m.period != 0) {
            round++;
        }
        text.append("now ").append(m.now).append(", round in ").append(round);
        for (int part = 0; part < 6; part++) {
            text.append("; part ").append(part).append(": ").append(m.store[part]);
            text.append(" lacks ").append(m.lacksOfPart(part));
        }
        for (int i = 0; i < m.line.size(); i++) {
            Model.Place p = m.line.get(i);
            text.append("; station ").append(i).append(": shelf ").append(p.shelf);
            text.append(" lacks ").append(m.lacksAt(i));
            text.append(" car ").append(p.wagon == null ? "IllegalStateException" : m.all.indexOf(p.wagon));
        }
        for (int car = 0; car < m.all.size(); car++) {
            tellCar(text, car);
        }
        text.append("; waiting").append(numbers(m.waiting));
        text.append("; loop").append(numbers(m.loop));
        text.append("; left").append(numbers(m.left));
        tellSums(text);
        return text.toString();
    }

    private void tellCar(StringBuilder text, int car) {
        Model.Wagon w = m.all.get(car);
        boolean stands = w.state == 's';
        boolean gone = w.state == 'd';
        text.append("; car ").append(car).append(": ").append(w.state);
        text.append(" at ").append(stands ? m.placeOf(w) : "IllegalStateException");
        text.append(" to go ").append(stands ? w.togo : "IllegalStateException");
        text.append(" back ").append(w.back).append(" faults ").append(w.faults.size()).append('=');
        for (int i = 0; i < m.line.size(); i++) {
            text.append(w.faults.contains(i) ? 'f' : '_');
        }
        text.append(" left in ").append(gone ? w.last : "IllegalStateException");
        int ticks = gone ? -1 : m.leavesIn(car);
        String due = gone ? "IllegalStateException" : ticks < 0 ? "UnsupportedOperationException" : "" + ticks;
        text.append(" leaves in ").append(due).append(" by ticks ").append(due);
        text.append(" trace ").append(w.trace);
    }

    private String numbers(List<Model.Wagon> wagons) {
        StringBuilder text = new StringBuilder();
        for (Model.Wagon w : wagons) {
            text.append(' ').append(m.all.indexOf(w));
        }
        return text.toString();
    }

    private void tellSums(StringBuilder text) {
        text.append("; signs");
        List<Integer> counts = new ArrayList<>();
        for (char sign : "+-.Lx".toCharArray()) {
            counts.add(m.count(sign));
            text.append(' ').append(m.count(sign));
        }
        text.append("; fitted ").append(m.units);
        int entered = counts.get(0) + counts.get(1) + counts.get(2);
        text.append(" share ");
        text.append(entered == 0 ? "ArithmeticException" : "" + (float) counts.get(1) / (float) entered);
        int sum = 0;
        for (Model.Wagon w : m.left) {
            sum += w.last - w.first;
        }
        text.append(" mean ");
        text.append(m.left.isEmpty() ? "ArithmeticException" : "" + (double) sum / (double) m.left.size());
        int next = m.nextToLeave();
        text.append(" next ").append(next < 0 ? "NoSuchElementException" : "" + next);
    }
}
