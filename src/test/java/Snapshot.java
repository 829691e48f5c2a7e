/** All that an object tells of itself, as one text. Many take over 512 calls; the class does not count them. */
final class Snapshot {
    private Snapshot() {
    }

    static String of(Lineclock line) {
        StringBuilder text = new StringBuilder();
        text.append("now ").append(line.now()).append(", round in ").append(line.nextRound());
        for (int part = 0; part < 6; part++) {
            text.append("; part ").append(part).append(": ").append(line.inStore(part));
            text.append(" lacks ").append(line.lacksOf(part));
        }
        for (int station = 0; station < line.stations(); station++) {
            addStation(text, line, station);
        }
        for (int car = 0; car < line.cars(); car++) {
            addCar(text, line, car);
        }
        addOrders(text, line);
        addSums(text, line);
        return text.toString();
    }

    static String trace(Lineclock line, int car) {
        StringBuilder text = new StringBuilder();
        for (int i = 0; i < line.traceLength(car); i++) {
            text.append(line.traceAt(car, i));
        }
        return text.toString();
    }

    static String answer(Check.Call call) {
        try {
            return String.valueOf(call.answer());
        } catch (RuntimeException e) {
            return e.getClass().getSimpleName();
        }
    }

    private static void addStation(StringBuilder text, Lineclock line, int station) {
        text.append("; station ").append(station).append(": shelf ").append(line.onShelf(station));
        text.append(" lacks ").append(line.lacks(station));
        text.append(" car ").append(answer(() -> line.carAt(station)));
    }

    private static void addCar(StringBuilder text, Lineclock line, int car) {
        text.append("; car ").append(car).append(": ").append(line.stateOf(car));
        text.append(" at ").append(answer(() -> line.stationOf(car)));
        text.append(" to go ").append(answer(() -> line.toGo(car)));
        text.append(" back ").append(line.isBack(car)).append(" faults ").append(line.faults(car)).append('=');
        for (int station = 0; station < line.stations(); station++) {
            text.append(line.hasFault(car, station) ? 'f' : '_');
        }
        text.append(" left in ").append(answer(() -> line.leftIn(car)));
        text.append(" leaves in ").append(answer(() -> line.leavesIn(car)));
        text.append(" by ticks ").append(answer(() -> line.leavesByTicks(car)));
        text.append(" trace ").append(trace(line, car));
    }

    private static void addOrders(StringBuilder text, Lineclock line) {
        text.append("; waiting");
        for (int place = 0; place < line.waiting(); place++) {
            text.append(' ').append(line.waitingAt(place));
        }
        text.append("; loop");
        for (int place = 0; place < line.looped(); place++) {
            text.append(' ').append(line.loopedAt(place));
        }
        text.append("; left");
        for (int place = 0; place < line.left(); place++) {
            text.append(' ').append(line.leftAt(place));
        }
    }

    private static void addSums(StringBuilder text, Lineclock line) {
        text.append("; signs");
        for (char sign : "+-.Lx".toCharArray()) {
            text.append(' ').append(line.countOf(sign));
        }
        text.append("; fitted ").append(line.fitted());
        text.append(" share ").append(answer(() -> line.lackShare()));
        text.append(" mean ").append(answer(() -> line.meanTime()));
        text.append(" next ").append(answer(() -> line.nextToLeave()));
    }
}
