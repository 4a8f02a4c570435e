import java.util.NoSuchElementException;

/** A desk of process costs; ../shared/DOC.md says what each call answers. */
public final class ProcessDesk {
    public static final int NONE = -1;

    private static final int FIRST_IN = 0;
    private static final int AVERAGE = 1;

    private static final int KINDS = 4;
    private static final int CAME = 0;
    private static final int WORK = 3;

    private static final int WHOLE = 100;
    private static final int MILLION = 1_000_000;

    private static final int MOST_BYTES = 400;
    private static final int BYTES_FED = 20;
    private static final int MOST_DEPARTMENTS = 5;
    private static final int MOST_MATERIALS = 2;
    private static final int MOST_PRODUCTS = 4;
    private static final int MOST_LAYERS = 40;
    private static final int MOST_RATE = 50;
    private static final int MOST_SCRAP = 999;
    private static final int MOST_BACK = 90;
    private static final int MOST_PRICE = 9_999;
    private static final int FIRST_PRICE = 100;
    private static final int MOST_STARTED = 10_000;
    private static final int MOST_SPENT = 100_000_000;
    private static final int MOST_UNITS = 50_000;
    private static final int MOST_ACTS = 8;

    /** Far above the rounds that any PLAN needs to settle. */
    private static final int MOST_ROUNDS = 1_000_000;
    /** Room for the largest state: 71 numbers of each DEPARTMENT, 88 of each PRODUCT, 9 others. */
    private static final int ROW_CELLS = 71 * MOST_DEPARTMENTS + 88 * MOST_PRODUCTS + 9;
    /** Above every number that a text may tell; longer ones stop here, so that they never wrap. */
    private static final int BIG_NUMBER = 100_000;

    private static final int CANNOT_STAND = 1;
    private static final int NONE_SUCH = 2;
    private static final int TOO_MANY = 3;
    private static final int NOT_WHOLE = 4;

    private int faultPlace = NONE;
    private int refusedElements;
    private int refusedArguments;
    private int refusedStates;
    private final Desk now = new Desk();
    private final History history = new History();
    private final Tape tape = new Tape();
    private final Plan forecast = new Plan();
    private final Month otherMonth = new Month();

    public ProcessDesk() {
        now.tellFirst();
    }

    public int feed(int a, int b, int c, int d, int e) {
        if (tape.held + BYTES_FED > MOST_BYTES) {
            return NONE;
        }
        tape.putFour(a);
        tape.putFour(b);
        tape.putFour(c);
        tape.putFour(d);
        tape.putFour(e);
        return tape.held;
    }

    public int text(int n) throws IllegalArgumentException {
        needWithin(n, 0, tape.held);
        now.save(history.row());
        tape.readInto(now, n);
        faultPlace = tape.place;
        if (tape.reason != 0) {
            now.load(history.row());
            return tape.reason - 10;
        }
        history.keep();
        return now.departments;
    }

    public int fault() {
        return faultPlace;
    }

    public int start(int units) throws IllegalArgumentException, IllegalStateException {
        needWithin(units, 1, MOST_STARTED);
        needState(now.started + units <= MOST_STARTED);
        now.save(history.row());
        now.started += units;
        history.keep();
        return now.started;
    }

    public int spend(int department, int kind, int cents)
            throws NoSuchElementException, IllegalArgumentException, IllegalStateException {
        Department at = needDepartment(department);
        needKind(at, kind, 1);
        needWithin(cents, 1, MOST_SPENT);
        needState(at.spentNext[kind] + cents <= MOST_SPENT);
        now.save(history.row());
        at.spentNext[kind] += cents;
        history.keep();
        return (int) at.spentNext[kind];
    }

    public int lost(int department, int units) throws NoSuchElementException, IllegalArgumentException {
        Department at = needDepartment(department);
        needWithin(units, 0, MOST_UNITS);
        now.save(history.row());
        int before = at.lostNext;
        at.lostNext = units;
        history.keep();
        return before;
    }

    public int left(int department, int units, int hundredths)
            throws NoSuchElementException, IllegalArgumentException {
        Department at = needDepartment(department);
        needWithin(units, 0, MOST_UNITS);
        needWithin(hundredths, 0, WHOLE);
        now.save(history.row());
        int before = at.leftNext;
        at.leftNext = units;
        at.farNext = hundredths;
        history.keep();
        return before;
    }

    public long close() throws IllegalStateException {
        now.save(history.row());
        boolean closed = now.closeMonth();
        if (!closed) {
            now.load(history.row());
        }
        needState(closed);
        history.keep();
        return now.lastDepartment().month.out;
    }

    public long sell(int product, int units)
            throws NoSuchElementException, IllegalArgumentException, IllegalStateException {
        Product of = needProduct(product);
        needWithin(units, 1, MOST_UNITS);
        needState(of.unitsInStore() >= units);
        now.save(history.row());
        long cents = of.takeOut(units);
        now.soldSoFar += cents;
        history.keep();
        return cents;
    }

    public int undo() {
        if (!history.stepBack()) {
            return NONE;
        }
        now.load(history.row());
        return history.kept;
    }

    public int told(int what) throws IllegalArgumentException {
        needWithin(what, 0, 6);
        switch (what) {
            case 0: return now.departments;
            case 1: return now.products;
            case 2: return now.months;
            case 3: return now.started;
            case 4: return now.storeWay;
            case 5: return tape.held;
            default: return history.kept;
        }
    }

    public int department(int department, int what) throws NoSuchElementException, IllegalArgumentException {
        Department at = needDepartment(department);
        needWithin(what, 0, 11);
        switch (what) {
            case 0: return at.way;
            case 1: return at.point;
            case 2: return at.rate;
            case 3: return at.scrap;
            case 4: return at.materials;
            case 5: return at.materials > 0 ? (int) at.addedAt[0] : NONE;
            case 6: return at.materials > 1 ? (int) at.addedAt[1] : NONE;
            case 7: return at.backTo;
            case 8: return at.backShare;
            case 9: return at.lostNext;
            case 10: return at.leftNext;
            default: return at.farNext;
        }
    }

    public int product(int product, int what) throws NoSuchElementException, IllegalArgumentException {
        Product of = needProduct(product);
        needWithin(what, 0, 3);
        switch (what) {
            case 0: return of.share;
            case 1: return of.price;
            case 2: return of.cost;
            default: return of.by;
        }
    }

    public long work(int department, int what) throws NoSuchElementException, IllegalArgumentException {
        Lot inWork = needDepartment(department).inWork;
        needWithin(what, 0, 5);
        switch (what) {
            case 0: return inWork.units;
            case 1: return inWork.far;
            default: return inWork.cents[what - 2];
        }
    }

    public int units(int department, int what) throws NoSuchElementException, IllegalArgumentException {
        Month month = needDepartment(department).month;
        needWithin(what, 0, 6);
        switch (what) {
            case 0: return month.opening.units;
            case 1: return month.received;
            case 2: return month.finished;
            case 3: return month.lost;
            case 4: return month.normal;
            case 5: return month.rest.units;
            default: return month.come;
        }
    }

    public int asDone(int department, int kind, int what) throws NoSuchElementException, IllegalArgumentException {
        Department at = needDepartment(department);
        needKind(at, kind, 0);
        needWithin(what, 0, 3);
        Month month = at.month;
        switch (what) {
            case 0: return (int) month.allDone(kind);
            case 1: return (int) month.finishedDone[kind];
            case 2: return (int) month.leftDone[kind];
            default: return (int) month.lostDone[kind];
        }
    }

    public long cents(int department, int kind, int what) throws NoSuchElementException, IllegalArgumentException {
        Department at = needDepartment(department);
        needKind(at, kind, 0);
        needWithin(what, 0, 3);
        Month month = at.month;
        switch (what) {
            case 0: return month.pool[kind];
            case 1: return month.finishedCents[kind];
            case 2: return month.rest.cents[kind];
            default: return month.lostCents[kind];
        }
    }

    public long loss(int department, int what) throws NoSuchElementException, IllegalArgumentException {
        Department at = needDepartment(department);
        needWithin(what, 0, 4);
        Month month = at.month;
        switch (what) {
            case 0: return month.net;
            case 1: return month.netToLeft;
            case 2: return month.abnormal;
            case 3: return at.scrapOfMonth();
            default: return month.out;
        }
    }

    public long other(int department) throws NoSuchElementException {
        Department at = needDepartment(department);
        if (now.months == 0) {
            return NONE;
        }
        otherMonth.copyGiven(at.month);
        int otherWay = at.way == FIRST_IN ? AVERAGE : FIRST_IN;
        return otherMonth.reckon(at, otherWay) ? otherMonth.out : NONE;
    }

    public long parted(int product, int what) throws NoSuchElementException, IllegalArgumentException {
        Product of = needProduct(product);
        needWithin(what, 0, 2);
        switch (what) {
            case 0: return of.units;
            case 1: return of.worth;
            default: return of.came;
        }
    }

    public long store(int product, int what) throws NoSuchElementException, IllegalArgumentException {
        Product of = needProduct(product);
        needWithin(what, 0, 2);
        switch (what) {
            case 0: return of.unitsInStore();
            case 1: return of.centsInStore();
            default: return of.layers;
        }
    }

    public long layer(int product, int k, int what) throws NoSuchElementException, IllegalArgumentException {
        Product of = needProduct(product);
        needLayer(of, k);
        needWithin(what, 0, 1);
        return what == 0 ? of.layerUnits[k] : of.layerCents[k];
    }

    public long account(int what) throws IllegalArgumentException {
        needWithin(what, 0, 5);
        switch (what) {
            case 0: return now.spentSoFar;
            case 1: return now.soldSoFar;
            case 2: return now.abnormalSoFar;
            case 3: return now.scrapSoFar;
            case 4: return now.centsInWork();
            default: return now.centsInStore();
        }
    }

    public long plan(int n, int what) throws IllegalArgumentException, NoSuchElementException {
        needWithin(n, 0, MOST_STARTED);
        needWithin(what, 0, 6);
        if (what < MOST_DEPARTMENTS) {
            needDepartment(what);
        }
        forecast.settle(now, n);
        switch (what) {
            case 5: return forecast.passing(now);
            case 6: return forecast.rounds;
            default: return forecast.flows[what];
        }
    }

    public long print() {
        return now.printed();
    }

    public int status(int what) {
        switch (what) {
            case 0: return refusedElements;
            case 1: return refusedArguments;
            case 2: return refusedStates;
            default: return NONE;
        }
    }

    private Department needDepartment(int department) {
        if (department < 0 || department >= now.departments) {
            refusedElements++;
            throw new NoSuchElementException("no such department");
        }
        return now.departmentRow[department];
    }

    private void needKind(Department at, int kind, int least) {
        if (kind < least || !at.hasKind(kind)) {
            refusedElements++;
            throw new NoSuchElementException("no such kind of cost");
        }
    }

    private Product needProduct(int product) {
        if (product < 0 || product >= now.products) {
            refusedElements++;
            throw new NoSuchElementException("no such product");
        }
        return now.productRow[product];
    }

    private void needLayer(Product of, int k) {
        if (k < 0 || k >= of.layers) {
            refusedElements++;
            throw new NoSuchElementException("no such layer");
        }
    }

    private void needWithin(int number, int least, int most) {
        if (number < least || number > most) {
            refusedArguments++;
            throw new IllegalArgumentException("a number that is none such");
        }
    }

    private void needState(boolean holds) {
        if (!holds) {
            refusedStates++;
            throw new IllegalStateException("not as things stand");
        }
    }

    private static long partOf(long amount, long part, long whole) {
        return whole == 0 ? 0 : amount * part / whole;
    }

    private static long sumOf(long[] numbers) {
        long sum = 0;
        for (long number : numbers) {
            sum += number;
        }
        return sum;
    }

    private static void clearAll(long[] numbers) {
        for (int i = 0; i < numbers.length; i++) {
            numbers[i] = 0;
        }
    }

    private static void copyAll(long[] from, long[] to) {
        for (int i = 0; i < from.length && i < to.length; i++) {
            to[i] = from[i];
        }
    }

    /** A whole state as one row of numbers, so that the ACTS' states need few objects. */
    private static final class Row {
        private final long[] cells = new long[ROW_CELLS];
        private int at;

        void rewind() {
            at = 0;
        }

        void put(long number) {
            if (at < cells.length) {
                cells[at] = number;
                at++;
            }
        }

        void putAll(long[] numbers) {
            for (long number : numbers) {
                put(number);
            }
        }

        long take() {
            if (at >= cells.length) {
                return 0;
            }
            long number = cells[at];
            at++;
            return number;
        }

        int takeInt() {
            return (int) take();
        }

        /** A count that is used as a bound behind it. */
        int takeCount(int most) {
            return Math.min(Math.max(takeInt(), 0), most);
        }

        void takeAll(long[] numbers) {
            for (int i = 0; i < numbers.length; i++) {
                numbers[i] = take();
            }
        }
    }

    /** The states ahead of the latest ACTS; one row more than ACTS, so that a refused one costs none of them. */
    private static final class History {
        private final Row[] rows = new Row[MOST_ACTS + 1];
        private int next;
        private int kept;

        History() {
            for (int i = 0; i < rows.length; i++) {
                rows[i] = new Row();
            }
        }

        /** The row for the state ahead of the ACT that is tried or was stepped back from. */
        Row row() {
            rows[next].rewind();
            return rows[next];
        }

        void keep() {
            next = next + 1 < rows.length ? next + 1 : 0;
            kept = Math.min(kept + 1, MOST_ACTS);
        }

        boolean stepBack() {
            if (kept == 0) {
                return false;
            }
            next = next > 0 ? next - 1 : rows.length - 1;
            kept--;
            return true;
        }
    }

    /** Units that are left half done, how far they are, and their cents of each KIND. */
    private static final class Lot {
        private int units;
        private int far;
        private final long[] cents = new long[KINDS];

        void clear() {
            units = 0;
            far = 0;
            clearAll(cents);
        }

        void copyFrom(Lot from) {
            units = from.units;
            far = from.far;
            copyAll(from.cents, cents);
        }

        void save(Row row) {
            row.put(units);
            row.put(far);
            row.putAll(cents);
        }

        void load(Row row) {
            units = row.takeInt();
            far = row.takeInt();
            row.takeAll(cents);
        }
    }

    /** A CLOSED MONTH of one DEPARTMENT: what was given, and what was reckoned from that. */
    private static final class Month {
        private final Lot opening = new Lot();
        /** What is LEFT; its cents are without NET. */
        private final Lot rest = new Lot();
        /** Cents that are RECEIVED (KIND 0) or SPENT. */
        private final long[] added = new long[KINDS];
        private int received;
        private int lost;
        private int finished;
        private int come;
        private int normal;
        private final long[] finishedDone = new long[KINDS];
        private final long[] leftDone = new long[KINDS];
        private final long[] lostDone = new long[KINDS];
        private final long[] pool = new long[KINDS];
        private final long[] finishedCents = new long[KINDS];
        private final long[] lostCents = new long[KINDS];
        private long net;
        private long netToLeft;
        private long abnormal;
        private long out;

        void clear() {
            opening.clear();
            rest.clear();
            clearAll(added);
            received = 0;
            lost = 0;
            finished = 0;
            come = 0;
            normal = 0;
            clearAll(finishedDone);
            clearAll(leftDone);
            clearAll(lostDone);
            clearAll(pool);
            clearAll(finishedCents);
            clearAll(lostCents);
            net = 0;
            netToLeft = 0;
            abnormal = 0;
            out = 0;
        }

        void copyGiven(Month from) {
            opening.copyFrom(from.opening);
            rest.copyFrom(from.rest);
            copyAll(from.added, added);
            received = from.received;
            lost = from.lost;
        }

        long spent() {
            return sumOf(added) - added[CAME];
        }

        long allDone(int kind) {
            return finishedDone[kind] + leftDone[kind] + lostDone[kind];
        }

        /** Answers false if such a MONTH can't be. */
        boolean reckon(Department by, int way) {
            finished = opening.units + received - lost - rest.units;
            if (finished < 0 || way == FIRST_IN && finished < opening.units) {
                return false;
            }
            for (int kind = 0; kind < KINDS; kind++) {
                countDone(by, way, kind);
                shareKind(way, kind);
            }
            countNormal(by);
            bearLoss(by);
            return true;
        }

        private void countDone(Department by, int way, int kind) {
            finishedDone[kind] = (long) WHOLE * finished;
            if (way == FIRST_IN) {
                finishedDone[kind] -= opening.units * by.doneAt(kind, opening.far);
            }
            leftDone[kind] = rest.units * by.doneAt(kind, rest.far);
            lostDone[kind] = lost * by.doneAt(kind, by.point);
        }

        private void shareKind(int way, int kind) {
            long ofOpening = opening.cents[kind];
            pool[kind] = way == FIRST_IN ? added[kind] : added[kind] + ofOpening;
            rest.cents[kind] = partOf(pool[kind], leftDone[kind], allDone(kind));
            lostCents[kind] = partOf(pool[kind], lostDone[kind], allDone(kind));
            finishedCents[kind] = pool[kind] - rest.cents[kind] - lostCents[kind];
            if (way == FIRST_IN) {
                finishedCents[kind] += ofOpening;
            }
        }

        private void countNormal(Department by) {
            come = finished + lost;
            if (rest.far >= by.point) {
                come += rest.units;
            }
            if (opening.far >= by.point) {
                come -= opening.units;
            }
            normal = Math.min(lost, Math.max(come, 0) * by.rate / WHOLE);
        }

        private void bearLoss(Department by) {
            long ofLost = sumOf(lostCents);
            long ofNormal = partOf(ofLost, normal, lost);
            net = Math.max(ofNormal - (long) normal * by.scrap, 0);
            abnormal = ofLost - ofNormal - (long) (lost - normal) * by.scrap;
            int leftBearing = rest.far >= by.point ? rest.units : 0;
            int bearing = leftBearing + finished;
            netToLeft = partOf(net, leftBearing, bearing);
            out = sumOf(finishedCents);
            if (bearing == 0) {
                abnormal += net;
            } else {
                out += net - netToLeft;
            }
        }

        void save(Row row) {
            opening.save(row);
            rest.save(row);
            row.putAll(added);
            row.put(received);
            row.put(lost);
            row.put(finished);
            row.put(come);
            row.put(normal);
            row.putAll(finishedDone);
            row.putAll(leftDone);
            row.putAll(lostDone);
            row.putAll(pool);
            row.putAll(finishedCents);
            row.putAll(lostCents);
            row.put(net);
            row.put(netToLeft);
            row.put(abnormal);
            row.put(out);
        }

        void load(Row row) {
            opening.load(row);
            rest.load(row);
            row.takeAll(added);
            received = row.takeInt();
            lost = row.takeInt();
            finished = row.takeInt();
            come = row.takeInt();
            normal = row.takeInt();
            row.takeAll(finishedDone);
            row.takeAll(leftDone);
            row.takeAll(lostDone);
            row.takeAll(pool);
            row.takeAll(finishedCents);
            row.takeAll(lostCents);
            net = row.take();
            netToLeft = row.take();
            abnormal = row.take();
            out = row.take();
        }
    }

    /** A DEPARTMENT as it is told, what is given for the MONTH to come, what is in work, and its latest MONTH. */
    private static final class Department {
        private int way;
        private int point;
        private int rate;
        private int scrap;
        private int materials;
        private final long[] addedAt = new long[MOST_MATERIALS];
        private int backTo;
        private int backShare;
        private int lostNext;
        private int leftNext;
        private int farNext;
        private final long[] spentNext = new long[KINDS];
        private final Lot inWork = new Lot();
        private final Month month = new Month();

        void clear() {
            way = AVERAGE;
            point = WHOLE;
            rate = 0;
            scrap = 0;
            materials = 0;
            clearAll(addedAt);
            backTo = NONE;
            backShare = NONE;
            clearNext();
            inWork.clear();
            month.clear();
        }

        private void clearNext() {
            lostNext = 0;
            leftNext = 0;
            farNext = 0;
            clearAll(spentNext);
        }

        boolean hasKind(int kind) {
            return kind == CAME || kind == WORK || kind >= 1 && kind <= materials;
        }

        /** DONE of a KIND, of a unit at so many hundredths. */
        long doneAt(int kind, int far) {
            if (kind == CAME) {
                return WHOLE;
            }
            if (kind == WORK) {
                return far;
            }
            boolean added = kind >= 1 && kind <= materials && addedAt[kind - 1] <= far;
            return added ? WHOLE : 0;
        }

        boolean closeMonth(int received, long receivedCents) {
            month.opening.copyFrom(inWork);
            copyAll(spentNext, month.added);
            month.added[CAME] = receivedCents;
            month.received = received;
            month.lost = lostNext;
            month.rest.units = leftNext;
            month.rest.far = leftNext == 0 ? 0 : farNext;
            if (!month.reckon(this, way)) {
                return false;
            }
            inWork.copyFrom(month.rest);
            inWork.cents[WORK] += month.netToLeft;
            clearNext();
            return true;
        }

        long scrapOfMonth() {
            return (long) month.lost * scrap;
        }

        long lostOf(long flow) {
            return flow * rate / WHOLE;
        }

        long passingOf(long flow) {
            return flow - lostOf(flow);
        }

        long backOf(long flow) {
            return backTo == NONE ? 0 : lostOf(flow) * backShare / WHOLE;
        }

        void save(Row row) {
            row.put(way);
            row.put(point);
            row.put(rate);
            row.put(scrap);
            row.put(materials);
            row.putAll(addedAt);
            row.put(backTo);
            row.put(backShare);
            row.put(lostNext);
            row.put(leftNext);
            row.put(farNext);
            row.putAll(spentNext);
            inWork.save(row);
            month.save(row);
        }

        void load(Row row) {
            way = row.takeInt();
            point = row.takeInt();
            rate = row.takeInt();
            scrap = row.takeInt();
            materials = row.takeCount(MOST_MATERIALS);
            row.takeAll(addedAt);
            backTo = row.takeInt();
            backShare = row.takeInt();
            lostNext = row.takeInt();
            leftNext = row.takeInt();
            farNext = row.takeInt();
            row.takeAll(spentNext);
            inWork.load(row);
            month.load(row);
        }
    }

    /** A PRODUCT as it is told, what came of it in the latest MONTH, and its LAYERS in the STORE. */
    private static final class Product {
        private int share;
        private int price;
        private int cost;
        private int by;
        private int units;
        private long worth;
        private long came;
        private int layers;
        private final long[] layerUnits = new long[MOST_LAYERS];
        private final long[] layerCents = new long[MOST_LAYERS];

        void clear() {
            share = 0;
            price = 0;
            cost = 0;
            by = 0;
            units = 0;
            worth = 0;
            came = 0;
            layers = 0;
            clearAll(layerUnits);
            clearAll(layerCents);
        }

        boolean isMain() {
            return by == 0;
        }

        void weigh() {
            worth = (long) units * Math.max(price - cost, 0);
        }

        /** Answers false if the STORE has no room. */
        boolean putIn(int way) {
            if (units == 0) {
                return true;
            }
            if (way == AVERAGE && layers > 0) {
                layerUnits[0] += units;
                layerCents[0] += came;
                return true;
            }
            if (layers >= MOST_LAYERS) {
                return false;
            }
            layerUnits[layers] = units;
            layerCents[layers] = came;
            layers++;
            return true;
        }

        /** By AVERAGE there is one LAYER at most, so one rule does for both ways. */
        long takeOut(int wanted) {
            long open = wanted;
            long cents = 0;
            int gone = 0;
            while (gone < layers && layerUnits[gone] <= open) {
                open -= layerUnits[gone];
                cents += layerCents[gone];
                gone++;
            }
            if (gone < layers) {
                long part = partOf(layerCents[gone], open, layerUnits[gone]);
                layerUnits[gone] -= open;
                layerCents[gone] -= part;
                cents += part;
            }
            dropOldest(gone);
            return cents;
        }

        private void dropOldest(int gone) {
            for (int k = gone; k < layers; k++) {
                layerUnits[k - gone] = layerUnits[k];
                layerCents[k - gone] = layerCents[k];
            }
            layers -= gone;
        }

        long unitsInStore() {
            long sum = 0;
            for (int k = 0; k < layers; k++) {
                sum += layerUnits[k];
            }
            return sum;
        }

        long centsInStore() {
            long sum = 0;
            for (int k = 0; k < layers; k++) {
                sum += layerCents[k];
            }
            return sum;
        }

        void save(Row row) {
            row.put(share);
            row.put(price);
            row.put(cost);
            row.put(by);
            row.put(units);
            row.put(worth);
            row.put(came);
            row.put(layers);
            for (int k = 0; k < layers; k++) {
                row.put(layerUnits[k]);
                row.put(layerCents[k]);
            }
        }

        void load(Row row) {
            share = row.takeInt();
            price = row.takeInt();
            cost = row.takeInt();
            by = row.takeInt();
            units = row.takeInt();
            worth = row.take();
            came = row.take();
            layers = row.takeCount(MOST_LAYERS);
            for (int k = 0; k < layers; k++) {
                layerUnits[k] = row.take();
                layerCents[k] = row.take();
            }
        }
    }

    /** All that ACTS change. */
    private static final class Desk {
        private final Department[] departmentRow = new Department[MOST_DEPARTMENTS];
        private final Product[] productRow = new Product[MOST_PRODUCTS];
        private int departments;
        private int products;
        private int storeWay;
        private int months;
        private int started;
        private long spentSoFar;
        private long soldSoFar;
        private long abnormalSoFar;
        private long scrapSoFar;

        Desk() {
            for (int d = 0; d < departmentRow.length; d++) {
                departmentRow[d] = new Department();
            }
            for (int p = 0; p < productRow.length; p++) {
                productRow[p] = new Product();
            }
        }

        void clear() {
            for (Department each : departmentRow) {
                each.clear();
            }
            for (Product each : productRow) {
                each.clear();
            }
            departments = 0;
            products = 0;
            storeWay = AVERAGE;
            months = 0;
            started = 0;
            spentSoFar = 0;
            soldSoFar = 0;
            abnormalSoFar = 0;
            scrapSoFar = 0;
        }

        void tellFirst() {
            clear();
            departments = 1;
            products = 1;
            productRow[0].share = WHOLE;
            productRow[0].price = FIRST_PRICE;
        }

        Department lastDepartment() {
            return departmentRow[Math.max(departments - 1, 0)];
        }

        /** Answers false, with some of it done, if the MONTH can't be CLOSED. */
        boolean closeMonth() {
            int received = started;
            long receivedCents = 0;
            for (int d = 0; d < departments; d++) {
                Department each = departmentRow[d];
                if (!each.closeMonth(received, receivedCents)) {
                    return false;
                }
                received = each.month.finished;
                receivedCents = each.month.out;
            }
            partUnits(received);
            partCents(receivedCents);
            moveUnplaced();
            if (!fillStore()) {
                return false;
            }
            addToAccounts();
            months++;
            started = 0;
            return true;
        }

        private void partUnits(int finished) {
            int open = finished;
            for (int p = 0; p < products; p++) {
                productRow[p].units = productRow[p].share * finished / WHOLE;
                open -= productRow[p].units;
            }
            productRow[0].units += open;
            for (int p = 0; p < products; p++) {
                productRow[p].weigh();
            }
        }

        private void partCents(long out) {
            long open = out;
            for (int p = 0; p < products; p++) {
                Product each = productRow[p];
                if (!each.isMain()) {
                    each.came = Math.min(each.worth, open);
                    open -= each.came;
                }
            }
            partAmongMain(open);
        }

        private void partAmongMain(long cents) {
            boolean byUnits = mainMeasure(false) == 0;
            long whole = mainMeasure(byUnits);
            long open = cents;
            int firstMain = NONE;
            for (int p = products - 1; p >= 0; p--) {
                Product each = productRow[p];
                if (each.isMain()) {
                    each.came = partOf(cents, byUnits ? each.units : each.worth, whole);
                    open -= each.came;
                    firstMain = p;
                }
            }
            if (firstMain != NONE) {
                productRow[firstMain].came += open;
            }
        }

        private long mainMeasure(boolean byUnits) {
            long sum = 0;
            for (int p = 0; p < products; p++) {
                Product each = productRow[p];
                if (each.isMain()) {
                    sum += byUnits ? each.units : each.worth;
                }
            }
            return sum;
        }

        /** Cents of PRODUCTS without units have no LAYER to lie in. */
        private void moveUnplaced() {
            long unplaced = 0;
            int heir = NONE;
            for (int p = products - 1; p >= 0; p--) {
                Product each = productRow[p];
                if (each.units == 0) {
                    unplaced += each.came;
                    each.came = 0;
                } else {
                    heir = p;
                }
            }
            if (heir != NONE) {
                productRow[heir].came += unplaced;
            } else {
                lastDepartment().month.abnormal += unplaced;
            }
        }

        private boolean fillStore() {
            for (int p = 0; p < products; p++) {
                if (!productRow[p].putIn(storeWay)) {
                    return false;
                }
            }
            return true;
        }

        private void addToAccounts() {
            for (int d = 0; d < departments; d++) {
                Department each = departmentRow[d];
                spentSoFar += each.month.spent();
                abnormalSoFar += each.month.abnormal;
                scrapSoFar += each.scrapOfMonth();
            }
        }

        long centsInWork() {
            long sum = 0;
            for (int d = 0; d < departments; d++) {
                sum += sumOf(departmentRow[d].inWork.cents);
            }
            return sum;
        }

        long centsInStore() {
            long sum = 0;
            for (int p = 0; p < products; p++) {
                sum += productRow[p].centsInStore();
            }
            return sum;
        }

        long printed() {
            long sum = 0;
            for (int d = 0; d < departments; d++) {
                Lot inWork = departmentRow[d].inWork;
                sum = 31 * sum + inWork.units;
                sum = 31 * sum + sumOf(inWork.cents);
            }
            for (int p = 0; p < products; p++) {
                sum = 31 * sum + productRow[p].unitsInStore();
                sum = 31 * sum + productRow[p].centsInStore();
            }
            return sum;
        }

        /** What lies beyond the told DEPARTMENTS and PRODUCTS is never asked for, so it is not saved. */
        void save(Row row) {
            row.put(departments);
            row.put(products);
            row.put(storeWay);
            row.put(months);
            row.put(started);
            row.put(spentSoFar);
            row.put(soldSoFar);
            row.put(abnormalSoFar);
            row.put(scrapSoFar);
            for (int d = 0; d < departments; d++) {
                departmentRow[d].save(row);
            }
            for (int p = 0; p < products; p++) {
                productRow[p].save(row);
            }
        }

        void load(Row row) {
            departments = row.takeCount(MOST_DEPARTMENTS);
            products = row.takeCount(MOST_PRODUCTS);
            storeWay = row.takeInt();
            months = row.takeInt();
            started = row.takeInt();
            spentSoFar = row.take();
            soldSoFar = row.take();
            abnormalSoFar = row.take();
            scrapSoFar = row.take();
            for (int d = 0; d < departments; d++) {
                departmentRow[d].load(row);
            }
            for (int p = 0; p < products; p++) {
                productRow[p].load(row);
            }
        }
    }

    /** The FLOWS of a PLAN, all reckoned anew from those of the round ahead until they settle. */
    private static final class Plan {
        private final long[] flows = new long[MOST_DEPARTMENTS];
        private final long[] fresh = new long[MOST_DEPARTMENTS];
        private int rounds;

        void settle(Desk desk, int n) {
            clearAll(flows);
            rounds = 0;
            while (rounds < MOST_ROUNDS && turn(desk, n)) {
                rounds++;
            }
        }

        long passing(Desk desk) {
            int last = Math.max(desk.departments - 1, 0);
            return desk.departmentRow[last].passingOf(flows[last]);
        }

        /** Answers whether a FLOW became another one. */
        private boolean turn(Desk desk, int n) {
            fresh[0] = (long) n * MILLION;
            for (int d = 1; d < desk.departments; d++) {
                fresh[d] = desk.departmentRow[d - 1].passingOf(flows[d - 1]);
            }
            for (int d = 0; d < desk.departments; d++) {
                Department each = desk.departmentRow[d];
                if (each.backTo >= 0 && each.backTo < fresh.length) {
                    fresh[each.backTo] += each.backOf(flows[d]);
                }
            }
            return takeFresh(desk.departments);
        }

        private boolean takeFresh(int departments) {
            boolean changed = false;
            for (int d = 0; d < departments; d++) {
                changed = changed || fresh[d] != flows[d];
                flows[d] = fresh[d];
            }
            return changed;
        }
    }

    /** The TAPE and the reader of its TEXT; the first FAULT it meets is the least, for each is looked for at once. */
    private static final class Tape {
        private final byte[] bytes = new byte[MOST_BYTES];
        private int held;
        private int length;
        private int at;
        private int wordFrom;
        private int number;
        private boolean storeTold;
        private int reason;
        private int place;

        void putFour(int four) {
            for (int shift = 24; shift >= 0 && held < bytes.length; shift -= 8) {
                bytes[held] = (byte) (four >> shift);
                held++;
            }
        }

        void readInto(Desk desk, int n) {
            desk.clear();
            length = Math.min(n, held);
            held = 0;
            at = 0;
            storeTold = false;
            reason = 0;
            place = NONE;
            boolean sound = true;
            for (int lines = 0; lines < MOST_BYTES && sound && !atEnd(); lines++) {
                sound = readLine(desk);
            }
            if (sound && !isWhole(desk)) {
                refuse(NOT_WHOLE, length);
            }
        }

        private static boolean isWhole(Desk desk) {
            int shares = 0;
            boolean main = false;
            for (int p = 0; p < desk.products; p++) {
                shares += desk.productRow[p].share;
                main = main || desk.productRow[p].isMain();
            }
            return desk.departments > 0 && shares == WHOLE && main;
        }

        /** Answers false, so that a reading method can end with it. */
        private boolean refuse(int why, int from) {
            reason = why;
            place = from;
            return false;
        }

        private boolean readLine(Desk desk) {
            readWord();
            boolean sound;
            if (isWord("dept")) {
                sound = readDepartment(desk);
            } else if (isWord("mat")) {
                sound = readMaterial(desk);
            } else if (isWord("product")) {
                sound = readProduct(desk);
            } else if (isWord("store") && !storeTold) {
                sound = readStore(desk);
            } else {
                sound = refuse(CANNOT_STAND, wordFrom);
            }
            return sound && readEnd();
        }

        private boolean readDepartment(Desk desk) {
            if (desk.departments >= MOST_DEPARTMENTS) {
                return refuse(TOO_MANY, wordFrom);
            }
            int itself = desk.departments;
            Department told = desk.departmentRow[itself];
            desk.departments++;
            if (!readWay()) {
                return false;
            }
            told.way = number;
            if (!readNumber(0, WHOLE)) {
                return false;
            }
            told.point = number;
            if (!readNumber(0, MOST_RATE)) {
                return false;
            }
            told.rate = number;
            if (!readNumber(0, MOST_SCRAP)) {
                return false;
            }
            told.scrap = number;
            return !atLetter() || readBack(told, itself);
        }

        private boolean readBack(Department told, int itself) {
            readWord();
            if (!isWord("back")) {
                return refuse(CANNOT_STAND, wordFrom);
            }
            if (!readNumber(0, itself)) {
                return false;
            }
            told.backTo = number;
            if (!readNumber(1, MOST_BACK)) {
                return false;
            }
            told.backShare = number;
            return true;
        }

        private boolean readMaterial(Desk desk) {
            int word = wordFrom;
            if (!readNumber(0, desk.departments - 1)) {
                return false;
            }
            Department told = desk.departmentRow[number];
            if (told.materials >= MOST_MATERIALS) {
                return refuse(TOO_MANY, word);
            }
            if (!readNumber(0, WHOLE)) {
                return false;
            }
            told.addedAt[told.materials] = number;
            told.materials++;
            return true;
        }

        private boolean readProduct(Desk desk) {
            if (desk.products >= MOST_PRODUCTS) {
                return refuse(TOO_MANY, wordFrom);
            }
            Product told = desk.productRow[desk.products];
            desk.products++;
            if (!readNumber(1, WHOLE)) {
                return false;
            }
            told.share = number;
            if (!readNumber(0, MOST_PRICE)) {
                return false;
            }
            told.price = number;
            if (!readNumber(0, MOST_PRICE)) {
                return false;
            }
            told.cost = number;
            return !atLetter() || readBy(told);
        }

        private boolean readBy(Product told) {
            readWord();
            if (!isWord("by")) {
                return refuse(CANNOT_STAND, wordFrom);
            }
            told.by = 1;
            return true;
        }

        private boolean readStore(Desk desk) {
            storeTold = true;
            if (!readWay()) {
                return false;
            }
            desk.storeWay = number;
            return true;
        }

        /** The way is left in number. */
        private boolean readWay() {
            readWord();
            if (isWord("first")) {
                number = FIRST_IN;
                return true;
            }
            if (isWord("average")) {
                number = AVERAGE;
                return true;
            }
            return refuse(CANNOT_STAND, wordFrom);
        }

        private boolean readEnd() {
            if (atEnd() || bytes[at] != ';') {
                return refuse(CANNOT_STAND, at);
            }
            at++;
            return true;
        }

        /** The word goes from wordFrom to at; it is empty if no letter stands there. */
        private void readWord() {
            skipBlanks();
            wordFrom = at;
            while (at < length && isLetter(bytes[at])) {
                at++;
            }
        }

        private boolean isWord(String word) {
            if (at - wordFrom != word.length()) {
                return false;
            }
            for (int i = 0; i < word.length(); i++) {
                if (bytes[wordFrom + i] != word.charAt(i)) {
                    return false;
                }
            }
            return true;
        }

        private boolean readNumber(int least, int most) {
            skipBlanks();
            int from = at;
            number = 0;
            while (at < length && isDigit(bytes[at])) {
                number = Math.min(number * 10 + bytes[at] - '0', BIG_NUMBER);
                at++;
            }
            if (at == from) {
                return refuse(CANNOT_STAND, from);
            }
            if (number < least || number > most) {
                return refuse(NONE_SUCH, from);
            }
            return true;
        }

        private boolean atEnd() {
            skipBlanks();
            return at >= length;
        }

        private boolean atLetter() {
            return !atEnd() && isLetter(bytes[at]);
        }

        private void skipBlanks() {
            while (at < length && bytes[at] == ' ') {
                at++;
            }
        }

        private static boolean isLetter(byte sign) {
            return sign >= 'a' && sign <= 'z';
        }

        private static boolean isDigit(byte sign) {
            return sign >= '0' && sign <= '9';
        }
    }
}
