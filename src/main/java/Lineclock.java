import java.util.NoSuchElementException;

/** An assembly line of stations, with shelves, rounds that refill them, and a loop for cars with open faults. */
public final class Lineclock {
    private static final int NONE = -1;

    private static final int MAX_STATIONS = 8;
    private static final int MAX_CARS = 30;
    private static final int PARTS = 6;
    private static final int MAX_TAKT = 9;
    private static final int MAX_AMOUNT = 4;
    private static final int MIN_ROOM = 4;
    private static final int MAX_ROOM = 30;
    private static final int MAX_UNITS = 99;
    private static final int MAX_STORE = 999;
    private static final int FIRST_PERIOD = 10;
    private static final int MAX_PERIOD = 60;
    private static final int MAX_WANTS = 63;
    private static final int MAX_TICKS = 60;
    private static final int MAX_NOW = 9999;
    private static final int HORIZON = 300;

    private static final char WAITS = 'w';
    private static final char STANDS = 's';
    private static final char LOOPS = 'l';
    private static final char GONE = 'd';

    private static final String SIGNS = "+-.Lx";
    private static final int SIGN_KINDS = 5;
    private static final char FITTED = '+';
    private static final char LACKING = '-';
    private static final char PASSED = '.';
    private static final char LOOP = 'L';
    private static final char EXIT = 'x';

    private static final int FIRST_TRACE_ROOM = 32;
    /** A car gains at most three signs in a tick ("L0-") and one when it leaves; this stands above that. */
    private static final int MAX_TRACE_ROOM = 32768;

    private final Line line;
    /** What would happen is tried here, so that a question neither changes the line nor makes new objects. */
    private final Line trial;

    public Lineclock() {
        line = new Line(true);
        trial = new Line(false);
    }

    public int addStation(int takt, int part, int amount, int room)
            throws IllegalArgumentException, IllegalStateException {
        if (!isWithin(takt, 1, MAX_TAKT) || !isWithin(part, NONE, PARTS - 1)) {
            throw new IllegalArgumentException("takt or part out of range");
        }
        if (part != NONE && (!isWithin(amount, 1, MAX_AMOUNT) || !isWithin(room, MIN_ROOM, MAX_ROOM))) {
            throw new IllegalArgumentException("amount or room out of range");
        }
        if (line.stationCount >= MAX_STATIONS || line.time > 0) {
            throw new IllegalStateException("no station can be added");
        }
        return line.appendStation(takt, part, amount, room);
    }

    public int supply(int part, int units)
            throws NoSuchElementException, IllegalArgumentException, IllegalStateException {
        requirePart(part);
        if (!isWithin(units, 1, MAX_UNITS)) {
            throw new IllegalArgumentException("units out of range");
        }
        if (line.unitsOf(part) + units > MAX_STORE) {
            throw new IllegalStateException("too many units of the part");
        }
        line.changeUnits(part, units);
        return line.unitsOf(part);
    }

    public int setPeriod(int ticks) throws IllegalArgumentException {
        if (!isWithin(ticks, 1, MAX_PERIOD)) {
            throw new IllegalArgumentException("period out of range");
        }
        int before = line.period;
        line.period = ticks;
        return before;
    }

    public int addCar(int wants) throws IllegalArgumentException, IllegalStateException {
        if (!isWithin(wants, 0, MAX_WANTS)) {
            throw new IllegalArgumentException("wants out of range");
        }
        if (line.carCount >= MAX_CARS || line.stationCount == 0) {
            throw new IllegalStateException("no car can be added");
        }
        return line.appendCar(wants);
    }

    public int swap(int car, int other)
            throws NoSuchElementException, IllegalArgumentException, IllegalStateException {
        Car first = requireCar(car);
        Car second = requireCar(other);
        if (car == other) {
            throw new IllegalArgumentException("twice the same car");
        }
        if (first.state != WAITS || second.state != WAITS) {
            throw new IllegalStateException("a car does not wait");
        }
        int place = line.waiting.placeOf(other);
        line.waiting.exchange(line.waiting.placeOf(car), place);
        return place;
    }

    public int fault(int car, int station)
            throws NoSuchElementException, IllegalStateException, UnsupportedOperationException {
        Car known = requireCar(car);
        requireStation(station);
        if (!known.hasEntered(station) || known.station == station || known.state == GONE) {
            throw new IllegalStateException("no fault can be told there");
        }
        if (known.isFaulty(station)) {
            throw new UnsupportedOperationException("the fault is open already");
        }
        known.openFault(station);
        return known.faultCount();
    }

    public int tick(int ticks) throws IllegalArgumentException, IllegalStateException {
        if (!isWithin(ticks, 1, MAX_TICKS)) {
            throw new IllegalArgumentException("ticks out of range");
        }
        if (line.stationCount == 0 || line.time + ticks > MAX_NOW) {
            throw new IllegalStateException("no station, or too many ticks");
        }
        int before = line.gone.size;
        for (int i = 0; i < ticks; i++) {
            line.passTick();
        }
        return line.gone.size - before;
    }

    public int now() {
        return line.time;
    }

    public int stations() {
        return line.stationCount;
    }

    public int cars() {
        return line.carCount;
    }

    public char stateOf(int car) throws NoSuchElementException {
        return requireCar(car).state;
    }

    public int stationOf(int car) throws NoSuchElementException, IllegalStateException {
        return requireStanding(car).station;
    }

    public int toGo(int car) throws NoSuchElementException, IllegalStateException {
        return requireStanding(car).ticksToGo;
    }

    public int carAt(int station) throws NoSuchElementException, IllegalStateException {
        Station known = requireStation(station);
        if (known.car == NONE) {
            throw new IllegalStateException("no car at the station");
        }
        return known.car;
    }

    public boolean isBack(int car) throws NoSuchElementException {
        return requireCar(car).back;
    }

    public int waiting() {
        return line.waiting.size;
    }

    public int waitingAt(int place) throws IndexOutOfBoundsException {
        return requirePlace(line.waiting, place);
    }

    public int looped() {
        return line.loop.size;
    }

    public int loopedAt(int place) throws IndexOutOfBoundsException {
        return requirePlace(line.loop, place);
    }

    public int left() {
        return line.gone.size;
    }

    public int leftAt(int place) throws IndexOutOfBoundsException {
        return requirePlace(line.gone, place);
    }

    public int leftIn(int car) throws NoSuchElementException, IllegalStateException {
        Car known = requireCar(car);
        if (known.state != GONE) {
            throw new IllegalStateException("the car has not left");
        }
        return known.lastTick;
    }

    public int faults(int car) throws NoSuchElementException {
        return requireCar(car).faultCount();
    }

    public boolean hasFault(int car, int station) throws NoSuchElementException {
        Car known = requireCar(car);
        requireStation(station);
        return known.isFaulty(station);
    }

    public int lacks(int station) throws NoSuchElementException {
        return requireStation(station).lackCount;
    }

    public int lacksOf(int part) throws NoSuchElementException {
        requirePart(part);
        int sum = 0;
        for (int i = 0; i < MAX_STATIONS; i++) {
            Station station = line.findStation(i);
            if (station != null && station.part == part) {
                sum += station.lackCount;
            }
        }
        return sum;
    }

    public int onShelf(int station) throws NoSuchElementException {
        return requireStation(station).shelf;
    }

    public int inStore(int part) throws NoSuchElementException {
        requirePart(part);
        return line.unitsOf(part);
    }

    public int nextRound() {
        return line.ticksToRound();
    }

    public int leavesIn(int car) throws NoSuchElementException, IllegalStateException, UnsupportedOperationException {
        requireNotGone(car);
        trial.copyFrom(line);
        int passed = 0;
        for (int events = 0; events < HORIZON; events++) {
            int quiet = trial.quietTicks();
            if (passed + quiet >= HORIZON) {
                break;
            }
            trial.passQuietTicks(quiet);
            trial.passTick();
            passed += quiet + 1;
            if (trial.hasGone(car)) {
                return passed;
            }
        }
        throw new UnsupportedOperationException("the car does not leave soon enough");
    }

    public int leavesByTicks(int car)
            throws NoSuchElementException, IllegalStateException, UnsupportedOperationException {
        requireNotGone(car);
        trial.copyFrom(line);
        for (int passed = 1; passed <= HORIZON; passed++) {
            trial.passTick();
            if (trial.hasGone(car)) {
                return passed;
            }
        }
        throw new UnsupportedOperationException("the car does not leave soon enough");
    }

    public int nextToLeave() throws NoSuchElementException {
        trial.copyFrom(line);
        int before = line.gone.size;
        for (int passed = 1; passed <= HORIZON; passed++) {
            trial.passTick();
            if (trial.gone.size > before) {
                return trial.gone.at(before);
            }
        }
        throw new NoSuchElementException("no car leaves soon enough");
    }

    public int traceLength(int car) throws NoSuchElementException {
        return requireTrace(car).length;
    }

    public char traceAt(int car, int index) throws NoSuchElementException, IndexOutOfBoundsException {
        Trace trace = requireTrace(car);
        if (!trace.has(index)) {
            throw new IndexOutOfBoundsException("no such index");
        }
        return trace.signAt(index);
    }

    public int countOf(char sign) throws IllegalArgumentException {
        if (SIGNS.indexOf(sign) < 0) {
            throw new IllegalArgumentException("no such sign");
        }
        return line.totalOf(sign);
    }

    public long fitted() {
        long sum = 0;
        for (int i = 0; i < MAX_STATIONS; i++) {
            Station station = line.findStation(i);
            if (station != null) {
                sum += station.taken;
            }
        }
        return sum;
    }

    public float lackShare() throws ArithmeticException {
        int lacking = line.totalOf(LACKING);
        int entered = line.totalOf(FITTED) + lacking + line.totalOf(PASSED);
        if (entered == 0) {
            throw new ArithmeticException("no car has entered a station");
        }
        return (float) lacking / (float) entered;
    }

    public double meanTime() throws ArithmeticException {
        int count = line.gone.size;
        if (count == 0) {
            throw new ArithmeticException("no car has left");
        }
        return (double) line.ticksOfGone() / (double) count;
    }

    private static boolean isWithin(int number, int lowest, int highest) {
        return number >= lowest && number <= highest;
    }

    private static void requirePart(int part) {
        if (!isWithin(part, 0, PARTS - 1)) {
            throw new NoSuchElementException("no such part");
        }
    }

    private Station requireStation(int number) {
        Station station = line.findStation(number);
        if (station == null) {
            throw new NoSuchElementException("no such station");
        }
        return station;
    }

    private Car requireCar(int number) {
        Car car = line.findCar(number);
        if (car == null) {
            throw new NoSuchElementException("no such car");
        }
        return car;
    }

    private Car requireStanding(int number) {
        Car car = requireCar(number);
        if (car.state != STANDS) {
            throw new IllegalStateException("the car stands at no station");
        }
        return car;
    }

    private void requireNotGone(int number) {
        if (requireCar(number).state == GONE) {
            throw new IllegalStateException("the car has left");
        }
    }

    private Trace requireTrace(int number) {
        Trace trace = requireCar(number).trace;
        if (trace == null) {
            throw new NoSuchElementException("no such car");
        }
        return trace;
    }

    private static int requirePlace(Row row, int place) {
        if (!row.has(place)) {
            throw new IndexOutOfBoundsException("no such place");
        }
        return row.at(place);
    }

    /** A place on the line, with its shelf. */
    private static final class Station {
        private int takt;
        private int part = NONE;
        private int amount;
        private int room;
        private int shelf;
        private int car = NONE;
        private int lackCount;
        private long taken;

        void setUp(int newTakt, int newPart, int newAmount, int newRoom) {
            takt = newTakt;
            part = newPart;
            amount = newAmount;
            room = newRoom;
        }

        void copyFrom(Station other) {
            setUp(other.takt, other.part, other.amount, other.room);
            shelf = other.shelf;
            car = other.car;
            lackCount = other.lackCount;
            taken = other.taken;
        }

        /** Serves a car that enters, and tells the sign for its trace. */
        char serve(Car entering, boolean throughLoop) {
            if (part == NONE) {
                return FITTED;
            }
            if (!entering.isWanting(part)) {
                return throughLoop ? FITTED : PASSED;
            }
            if (shelf < amount) {
                lackCount++;
                return LACKING;
            }
            shelf -= amount;
            taken += amount;
            return FITTED;
        }
    }

    /** A car, wherever it is. */
    private static final class Car {
        private final int number;
        /** Null in a trial, which leaves no traces. */
        private final Trace trace;
        private int wants;
        private char state = WAITS;
        private int station = NONE;
        private int ticksToGo;
        private boolean back;
        /** One bit for each station. */
        private int openFaults;
        /** One bit for each station. */
        private int entered;
        private int firstTick;
        private int lastTick;

        Car(int number, Trace trace) {
            this.number = number;
            this.trace = trace;
        }

        void copyFrom(Car other) {
            wants = other.wants;
            state = other.state;
            station = other.station;
            ticksToGo = other.ticksToGo;
            back = other.back;
            openFaults = other.openFaults;
            entered = other.entered;
            firstTick = other.firstTick;
            lastTick = other.lastTick;
        }

        boolean isWanting(int part) {
            return (wants >> part & 1) != 0;
        }

        boolean hasEntered(int place) {
            return (entered >> place & 1) != 0;
        }

        boolean isFaulty(int place) {
            return (openFaults >> place & 1) != 0;
        }

        void openFault(int place) {
            openFaults |= 1 << place;
        }

        void closeFault(int place) {
            openFaults &= ~(1 << place);
        }

        int faultCount() {
            return Integer.bitCount(openFaults);
        }

        int lowestFault() {
            for (int place = 0; place < MAX_STATIONS; place++) {
                if (isFaulty(place)) {
                    return place;
                }
            }
            return NONE;
        }

        void stand(int place, int ticks, boolean throughLoop) {
            state = STANDS;
            station = place;
            ticksToGo = ticks;
            back = throughLoop;
            entered |= 1 << place;
        }

        void goAway(char newState) {
            state = newState;
            station = NONE;
            ticksToGo = 0;
            back = false;
        }
    }

    /** Numbers of cars, in an order. */
    private static final class Row {
        private final int[] members = new int[MAX_CARS];
        private int size;

        boolean has(int place) {
            return place >= 0 && place < size && place < members.length;
        }

        int at(int place) {
            return has(place) ? members[place] : NONE;
        }

        int placeOf(int car) {
            for (int place = 0; place < members.length; place++) {
                if (at(place) == car) {
                    return place;
                }
            }
            return NONE;
        }

        void append(int car) {
            if (size >= 0 && size < members.length) {
                members[size] = car;
                size++;
            }
        }

        void removeAt(int place) {
            if (!has(place)) {
                return;
            }
            for (int i = place; i < members.length - 1; i++) {
                members[i] = members[i + 1];
            }
            size--;
        }

        void exchange(int place, int other) {
            if (has(place) && has(other)) {
                int car = members[place];
                members[place] = members[other];
                members[other] = car;
            }
        }

        void copyFrom(Row other) {
            size = other.size;
            for (int place = 0; place < members.length; place++) {
                members[place] = other.at(place);
            }
        }
    }

    /** The trace of one car, and how often each sign stands in it. */
    private static final class Trace {
        private char[] signs = new char[FIRST_TRACE_ROOM];
        private int length;
        private final int[] totals = new int[SIGN_KINDS];

        boolean has(int index) {
            return index >= 0 && index < length && index < signs.length;
        }

        char signAt(int index) {
            return has(index) ? signs[index] : EXIT;
        }

        void append(char sign) {
            if (length >= signs.length) {
                grow();
            }
            if (length >= 0 && length < signs.length) {
                signs[length] = sign;
                length++;
            }
            int kind = SIGNS.indexOf(sign);
            if (kind >= 0 && kind < totals.length) {
                totals[kind]++;
            }
        }

        int totalOf(char sign) {
            int kind = SIGNS.indexOf(sign);
            return kind >= 0 && kind < totals.length ? totals[kind] : 0;
        }

        private void grow() {
            int room = signs.length * 2;
            if (room <= signs.length || room > MAX_TRACE_ROOM) {
                return;
            }
            char[] larger = new char[room];
            for (int i = 0; i < signs.length && i < larger.length; i++) {
                larger[i] = signs[i];
            }
            signs = larger;
        }
    }

    /** The line itself: all that decides what the next tick does. */
    private static final class Line {
        private final Station[] places = new Station[MAX_STATIONS];
        private final Car[] known = new Car[MAX_CARS];
        private final int[] store = new int[PARTS];
        private final Row waiting = new Row();
        private final Row loop = new Row();
        private final Row gone = new Row();
        private int stationCount;
        private int carCount;
        private int time;
        private int period = FIRST_PERIOD;

        Line(boolean isTraced) {
            for (int i = 0; i < places.length; i++) {
                places[i] = new Station();
            }
            for (int i = 0; i < known.length; i++) {
                known[i] = new Car(i, isTraced ? new Trace() : null);
            }
        }

        void copyFrom(Line other) {
            stationCount = other.stationCount;
            carCount = other.carCount;
            time = other.time;
            period = other.period;
            for (int part = 0; part < store.length; part++) {
                store[part] = other.unitsOf(part);
            }
            for (int i = 0; i < stationCount; i++) {
                copyStation(findStation(i), other.findStation(i));
            }
            for (int i = 0; i < carCount; i++) {
                copyCar(findCar(i), other.findCar(i));
            }
            waiting.copyFrom(other.waiting);
            loop.copyFrom(other.loop);
            gone.copyFrom(other.gone);
        }

        private static void copyStation(Station mine, Station theirs) {
            if (mine != null && theirs != null) {
                mine.copyFrom(theirs);
            }
        }

        private static void copyCar(Car mine, Car theirs) {
            if (mine != null && theirs != null) {
                mine.copyFrom(theirs);
            }
        }

        Station findStation(int number) {
            return number >= 0 && number < stationCount && number < places.length ? places[number] : null;
        }

        Car findCar(int number) {
            return number >= 0 && number < carCount && number < known.length ? known[number] : null;
        }

        int unitsOf(int part) {
            return part >= 0 && part < store.length ? store[part] : 0;
        }

        void changeUnits(int part, int units) {
            if (part >= 0 && part < store.length) {
                store[part] += units;
            }
        }

        int appendStation(int takt, int part, int amount, int room) {
            int number = stationCount;
            stationCount++;
            Station station = findStation(number);
            if (station != null) {
                station.setUp(takt, part, amount, room);
            }
            return number;
        }

        int appendCar(int wants) {
            int number = carCount;
            carCount++;
            Car car = findCar(number);
            if (car != null) {
                car.wants = wants;
            }
            waiting.append(number);
            return number;
        }

        boolean hasGone(int number) {
            Car car = findCar(number);
            return car != null && car.state == GONE;
        }

        int ticksToRound() {
            return period > 0 ? period - time % period : 1;
        }

        long ticksOfGone() {
            long sum = 0;
            for (int place = 0; place < gone.size; place++) {
                Car car = findCar(gone.at(place));
                if (car != null) {
                    sum += car.lastTick - car.firstTick;
                }
            }
            return sum;
        }

        int totalOf(char sign) {
            int sum = 0;
            for (int i = 0; i < carCount; i++) {
                Car car = findCar(i);
                if (car != null && car.trace != null) {
                    sum += car.trace.totalOf(sign);
                }
            }
            return sum;
        }

        void passTick() {
            boolean isRound = ticksToRound() == 1;
            time++;
            if (isRound) {
                fillShelves();
            }
            countDown(1);
            for (int number = stationCount - 1; number >= 0; number--) {
                moveOn(number);
            }
            enterFromLoop();
            enterFromWaiting();
        }

        /** Passes ticks in which nothing happens, as quietTicks tells. */
        void passQuietTicks(int ticks) {
            time += ticks;
            countDown(ticks);
        }

        /** For how many ticks the cars at stations have less to go and nothing else happens. */
        int quietTicks() {
            if (canEnterFromWaiting() || canEnterFromLoop()) {
                return 0;
            }
            int quiet = ticksToRound() - 1;
            for (int number = 0; number < stationCount; number++) {
                quiet = Math.min(quiet, quietTicksAt(number));
            }
            return Math.max(quiet, 0);
        }

        private int quietTicksAt(int number) {
            Car car = standingAt(number);
            if (car == null) {
                return HORIZON;
            }
            if (car.ticksToGo > 0) {
                return car.ticksToGo - 1;
            }
            return isHeldUp(car) ? HORIZON : 0;
        }

        private void fillShelves() {
            for (int number = 0; number < stationCount; number++) {
                Station station = findStation(number);
                if (station != null && station.part != NONE) {
                    int units = Math.min(station.room - station.shelf, unitsOf(station.part));
                    station.shelf += units;
                    changeUnits(station.part, -units);
                }
            }
        }

        private void countDown(int ticks) {
            for (int number = 0; number < stationCount; number++) {
                Car car = standingAt(number);
                if (car != null) {
                    car.ticksToGo = Math.max(car.ticksToGo - ticks, 0);
                }
            }
        }

        private Car standingAt(int number) {
            Station station = findStation(number);
            return station == null ? null : findCar(station.car);
        }

        private boolean isFree(int number) {
            Station station = findStation(number);
            return station != null && station.car == NONE;
        }

        private boolean goesAlong(Car car) {
            return !car.back && car.station + 1 < stationCount;
        }

        private boolean isHeldUp(Car car) {
            return goesAlong(car) && !isFree(car.station + 1);
        }

        private void moveOn(int number) {
            Station station = findStation(number);
            Car car = standingAt(number);
            if (station == null || car == null || car.ticksToGo > 0 || isHeldUp(car)) {
                return;
            }
            station.car = NONE;
            if (goesAlong(car)) {
                enter(car, number + 1, false);
            } else if (car.openFaults == 0) {
                leave(car);
            } else {
                comeToLoop(car);
            }
        }

        private void enter(Car car, int number, boolean throughLoop) {
            Station station = findStation(number);
            if (station == null) {
                return;
            }
            if (car.entered == 0) {
                car.firstTick = time;
            }
            char sign = station.serve(car, throughLoop);
            station.car = car.number;
            car.stand(number, sign == PASSED ? 1 : station.takt, throughLoop);
            if (sign == FITTED) {
                car.closeFault(number);
            } else if (sign == LACKING) {
                car.openFault(number);
            }
            note(car, (char) ('0' + number));
            note(car, sign);
        }

        private void leave(Car car) {
            car.goAway(GONE);
            car.lastTick = time;
            gone.append(car.number);
            note(car, EXIT);
        }

        private void comeToLoop(Car car) {
            car.goAway(LOOPS);
            loop.append(car.number);
            note(car, LOOP);
        }

        private void note(Car car, char sign) {
            if (car.trace != null) {
                car.trace.append(sign);
            }
        }

        private boolean canEnterFromLoop() {
            for (int place = 0; place < loop.size; place++) {
                Car car = findCar(loop.at(place));
                if (car != null && isFree(car.lowestFault())) {
                    return true;
                }
            }
            return false;
        }

        private void enterFromLoop() {
            int count = loop.size;
            int place = 0;
            for (int i = 0; i < count; i++) {
                Car car = findCar(loop.at(place));
                if (car != null && isFree(car.lowestFault())) {
                    loop.removeAt(place);
                    enter(car, car.lowestFault(), true);
                } else {
                    place++;
                }
            }
        }

        private boolean canEnterFromWaiting() {
            return waiting.size > 0 && isFree(0);
        }

        private void enterFromWaiting() {
            Car car = findCar(waiting.at(0));
            if (car != null && isFree(0)) {
                waiting.removeAt(0);
                enter(car, 0, false);
            }
        }
    }
}
