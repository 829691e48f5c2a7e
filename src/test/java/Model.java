import java.util.ArrayList;
import java.util.List;
import java.util.TreeSet;

/** The document's terms once more, written apart from the class: with lists and texts, and no care for speed. */
final class Model {
    static final class Place {
        int takt;
        int part;
        int amount;
        int room;
        int shelf;
        Wagon wagon;
    }

    static final class Wagon {
        int wants;
        char state = 'w';
        int togo;
        boolean back;
        String trace = "";
        int first;
        int last;
        TreeSet<Integer> faults = new TreeSet<>();
    }

    List<Place> line = new ArrayList<>();
    List<Wagon> all = new ArrayList<>();
    List<Wagon> waiting = new ArrayList<>();
    List<Wagon> loop = new ArrayList<>();
    List<Wagon> left = new ArrayList<>();
    int[] store = new int[6];
    int now;
    int period = 10;
    long units;

    Model copy() {
        Model other = new Model();
        for (Wagon w : all) {
            Wagon c = new Wagon();
            c.wants = w.wants;
            c.state = w.state;
            c.togo = w.togo;
            c.back = w.back;
            c.trace = w.trace;
            c.first = w.first;
            c.last = w.last;
            c.faults.addAll(w.faults);
            other.all.add(c);
        }
        for (Place p : line) {
            Place c = new Place();
            c.takt = p.takt;
            c.part = p.part;
            c.amount = p.amount;
            c.room = p.room;
            c.shelf = p.shelf;
            c.wagon = p.wagon == null ? null : other.all.get(all.indexOf(p.wagon));
            other.line.add(c);
        }
        waiting.forEach(w -> other.waiting.add(other.all.get(all.indexOf(w))));
        loop.forEach(w -> other.loop.add(other.all.get(all.indexOf(w))));
        left.forEach(w -> other.left.add(other.all.get(all.indexOf(w))));
        other.store = store.clone();
        other.now = now;
        other.period = period;
        other.units = units;
        return other;
    }

    int placeOf(Wagon w) {
        for (int i = 0; i < line.size(); i++) {
            if (line.get(i).wagon == w) {
                return i;
            }
        }
        return -1;
    }

    boolean mayTellFault(Wagon w, int place) {
        boolean entered = w.trace.indexOf((char) ('0' + place)) >= 0;
        return entered && placeOf(w) != place && w.state != 'd';
    }

    void enter(Wagon w, int number, boolean throughLoop) {
        Place p = line.get(number);
        if (w.trace.isEmpty()) {
            w.first = now;
        }
        boolean wanted = p.part >= 0 && (w.wants / (1 << p.part)) % 2 == 1;
        String sign;
        if (wanted && p.shelf >= p.amount) {
            p.shelf -= p.amount;
            units += p.amount;
            sign = "+";
        } else if (wanted) {
            sign = "-";
        } else if (p.part >= 0 && !throughLoop) {
            sign = ".";
        } else {
            sign = "+";
        }
        if (sign.equals("+")) {
            w.faults.remove(number);
        }
        if (sign.equals("-")) {
            w.faults.add(number);
        }
        w.togo = sign.equals(".") ? 1 : p.takt;
        w.state = 's';
        w.back = throughLoop;
        w.trace = w.trace + number + sign;
        p.wagon = w;
    }

    void tick() {
        now++;
        if (now % period == 0) {
            for (Place p : line) {
                while (p.part >= 0 && p.shelf < p.room && store[p.part] > 0) {
                    p.shelf++;
                    store[p.part]--;
                }
            }
        }
        for (Place p : line) {
            if (p.wagon != null && p.wagon.togo > 0) {
                p.wagon.togo--;
            }
        }
        for (int i = line.size() - 1; i >= 0; i--) {
            stationGoes(i);
        }
        for (Wagon w : new ArrayList<>(loop)) {
            if (line.get(w.faults.first()).wagon == null) {
                loop.remove(w);
                enter(w, w.faults.first(), true);
            }
        }
        if (!line.isEmpty() && !waiting.isEmpty() && line.get(0).wagon == null) {
            enter(waiting.remove(0), 0, false);
        }
    }

    private void stationGoes(int i) {
        Wagon w = line.get(i).wagon;
        if (w == null || w.togo > 0) {
            return;
        }
        boolean last = i == line.size() - 1;
        if (!w.back && !last) {
            if (line.get(i + 1).wagon == null) {
                line.get(i).wagon = null;
                enter(w, i + 1, false);
            }
            return;
        }
        line.get(i).wagon = null;
        w.back = false;
        if (w.faults.isEmpty()) {
            w.state = 'd';
            w.last = now;
            w.trace += "x";
            left.add(w);
        } else {
            w.state = 'l';
            w.trace += "L";
            loop.add(w);
        }
    }

    int leavesIn(int car) {
        Model trial = copy();
        for (int i = 1; i <= 300; i++) {
            trial.tick();
            if (trial.all.get(car).state == 'd') {
                return i;
            }
        }
        return -1;
    }

    int nextToLeave() {
        Model trial = copy();
        for (int i = 1; i <= 300; i++) {
            trial.tick();
            if (trial.left.size() > left.size()) {
                return trial.all.indexOf(trial.left.get(left.size()));
            }
        }
        return -1;
    }

    int count(char sign) {
        int sum = 0;
        for (Wagon w : all) {
            for (char c : w.trace.toCharArray()) {
                sum += c == sign ? 1 : 0;
            }
        }
        return sum;
    }

    int lacksAt(int place) {
        int sum = 0;
        for (Wagon w : all) {
            sum += w.trace.split(place + "-", -1).length - 1;
        }
        return sum;
    }

    int lacksOfPart(int part) {
        int sum = 0;
        for (int i = 0; i < line.size(); i++) {
            sum += line.get(i).part == part ? lacksAt(i) : 0;
        }
        return sum;
    }
}
