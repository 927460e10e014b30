// A provisioner of bare machines in racks; ../shared/DOC.md says what each call promises.
public final class MachineFoundry {
    public static final int NONE = -1;
    public static final int UNKNOWN = 0, IDLE = 1, QUEUED = 2, INSTALLING = 3, WAITING = 4, IN_USE = 5, DRAINING = 6, QUARANTINED = 7;
    public static final int NO_REASON = 0, NOT_REPORTED = 1, NO_IMAGE = 2, NOT_ORDERED = 3, BATCH = 4, AT_WORK = 5, BACKOFF = 6, LEAVING = 7, FAILURES = 8;

    private static final int MACHINE_COUNT = 16;
    private static final int RACK_COUNT = 4;
    private static final int IMAGE_COUNT = 8;
    private static final int LARGEST_MEMORY = 99;
    private static final int LARGEST_KIND = 3;
    private static final int LARGEST_SET = 15;
    private static final int FIRST_TIME = 2;
    private static final int FIRST_BATCH = 2;

    private final Machine[] machines = new Machine[MACHINE_COUNT];
    private final Image[] images = new Image[IMAGE_COUNT];
    private final int[] batches = new int[RACK_COUNT];
    private final Journal journal = new Journal();
    private int firstBackoff = 1;
    private int mostFailures = 3;
    private int hour = 0;
    private int wipeCount = 0;
    private int lastTicket = 0;

    public MachineFoundry() {
        for (int i = 0; i < machines.length; i++) {
            machines[i] = new Machine(i);
        }
        for (int i = 0; i < images.length; i++) {
            images[i] = new Image(i);
        }
        for (int i = 0; i < batches.length; i++) {
            batches[i] = FIRST_BATCH;
        }
    }

    // ---- rules

    public void setImage(int image, int priority, int memory, int kinds, int required, int barred) throws IndexOutOfBoundsException, IllegalArgumentException {
        Image row = imageRow(image);
        refuseOutside(priority, 0, 9);
        refuseOutside(memory, 0, LARGEST_MEMORY);
        refuseOutside(kinds, 0, LARGEST_SET);
        refuseOutside(required, 0, LARGEST_SET);
        refuseOutside(barred, 0, LARGEST_SET);
        if (!row.isSet) {
            row.time = FIRST_TIME;
        }
        row.isSet = true;
        row.priority = priority;
        row.memory = memory;
        row.kinds = kinds;
        row.required = required;
        row.barred = barred;
        beginInstallations();
    }

    public int setTime(int image, int hours) throws IndexOutOfBoundsException, IllegalArgumentException {
        Image row = setImageRow(image);
        refuseOutside(hours, 1, 24);
        int before = row.time;
        row.time = hours;
        beginInstallations();
        return before;
    }

    public void dropImage(int image) throws IndexOutOfBoundsException {
        Image row = setImageRow(image);
        row.isSet = false;
        beginInstallations();
    }

    public int setBatch(int rack, int most) throws IndexOutOfBoundsException, IllegalArgumentException {
        if (isNoRack(rack)) {
            throw new IndexOutOfBoundsException("there is no such rack");
        }
        refuseOutside(most, 0, 4);
        int before = batches[rack];
        batches[rack] = most;
        beginInstallations();
        return before;
    }

    public void setRetries(int first, int mostFailures) throws IllegalArgumentException {
        refuseOutside(first, 1, 24);
        refuseOutside(mostFailures, 1, 9);
        this.firstBackoff = first;
        this.mostFailures = mostFailures;
        beginInstallations();
    }

    // ---- machines

    public int report(int machine, int rack, int memory, int kind, int tags) throws IndexOutOfBoundsException, IllegalArgumentException {
        Machine row = machineRow(machine);
        if (isNoRack(rack)) {
            throw new IndexOutOfBoundsException("there is no such rack");
        }
        refuseOutside(memory, 0, LARGEST_MEMORY);
        refuseOutside(kind, 0, LARGEST_KIND);
        refuseOutside(tags, 0, LARGEST_SET);
        boolean isMoved = row.rack != rack;
        row.rack = rack;
        row.memory = memory;
        row.kind = kind;
        row.tags = tags;
        answerReport(row, isMoved);
        beginInstallations();
        return row.state;
    }

    public int order(int machine) throws IndexOutOfBoundsException, IllegalStateException {
        Machine row = machineRow(machine);
        if (row.state != IDLE || matchFor(row) == null) {
            throw new IllegalStateException("the machine is not IDLE, or has no match");
        }
        enqueue(row);
        beginInstallations();
        return row.state;
    }

    public void cancel(int machine) throws IndexOutOfBoundsException, IllegalStateException {
        Machine row = machineRow(machine);
        if (row.state != QUEUED && row.state != WAITING) {
            throw new IllegalStateException("the machine is neither QUEUED nor WAITING");
        }
        change(row, IDLE);
        beginInstallations();
    }

    public int finish(int machine, boolean isGood) throws IndexOutOfBoundsException, IllegalStateException {
        Machine row = machineRow(machine);
        if (row.state != INSTALLING) {
            throw new IllegalStateException("the machine is not INSTALLING");
        }
        if (isGood) {
            row.failures = 0;
            change(row, IN_USE);
        } else {
            fail(row);
        }
        beginInstallations();
        return row.state;
    }

    public void retire(int machine, int hours) throws IndexOutOfBoundsException, IllegalArgumentException, IllegalStateException {
        Machine row = machineRow(machine);
        refuseOutside(hours, 0, 48);
        if (row.state != IN_USE) {
            throw new IllegalStateException("the machine is not IN_USE");
        }
        if (hours == 0) {
            wipe(row);
        } else {
            row.end = hour + hours;
            change(row, DRAINING);
        }
        beginInstallations();
    }

    public void keep(int machine) throws IndexOutOfBoundsException, IllegalStateException {
        Machine row = machineRow(machine);
        if (row.state != DRAINING) {
            throw new IllegalStateException("the machine is not DRAINING");
        }
        change(row, IN_USE);
        beginInstallations();
    }

    public void release(int machine) throws IndexOutOfBoundsException, IllegalStateException {
        Machine row = machineRow(machine);
        if (row.state != QUARANTINED) {
            throw new IllegalStateException("the machine is not QUARANTINED");
        }
        row.failures = 0;
        change(row, IDLE);
        beginInstallations();
    }

    public int advance(int hours) throws IllegalArgumentException {
        refuseOutside(hours, 1, 200);
        int before = journal.added;
        for (int i = 0; i < hours; i++) {
            passHour();
        }
        return journal.added - before;
    }

    // ---- questions
    // None of them begins installations: behind each call above, a queue that
    // is not empty stands at a full batch, and a question changes neither.

    public int now() {
        return hour;
    }

    public int stateOf(int machine) throws IndexOutOfBoundsException {
        return machineRow(machine).state;
    }

    public int reason(int machine) throws IndexOutOfBoundsException {
        Machine row = machineRow(machine);
        boolean isToBeMatched = row.state == IDLE || row.state == QUEUED;
        if (isToBeMatched && matchFor(row) == null) {
            return NO_IMAGE;
        }
        return reasonOfState(row.state);
    }

    public int matchOf(int machine) throws IndexOutOfBoundsException {
        Image match = matchFor(machineRow(machine));
        return match == null ? NONE : match.number;
    }

    public int imageOf(int machine) throws IndexOutOfBoundsException {
        Machine row = machineRow(machine);
        return row.bearsImage() ? row.image : NONE;
    }

    public int endOf(int machine) throws IndexOutOfBoundsException {
        Machine row = machineRow(machine);
        return row.endsByItself() ? row.end : NONE;
    }

    public int failuresOf(int machine) throws IndexOutOfBoundsException {
        return machineRow(machine).failures;
    }

    public int installing(int rack) throws IndexOutOfBoundsException {
        if (isNoRack(rack)) {
            throw new IndexOutOfBoundsException("there is no such rack");
        }
        return countInstalling(rack);
    }

    public int queueAt(int rack, int place) throws IndexOutOfBoundsException {
        if (isNoRack(rack) || place < 0) {
            throw new IndexOutOfBoundsException("there is no such rack, or place is below 0");
        }
        Machine row = queuedAt(rack, place);
        return row == null ? NONE : row.number;
    }

    public int nextChange() {
        // Installations begin only where something ended, so the hour of the
        // earliest end is the next one with an entry.
        int earliest = NONE;
        for (int i = 0; i < machines.length; i++) {
            Machine row = machines[i];
            if (row.endsByItself() && (earliest == NONE || row.end < earliest)) {
                earliest = row.end;
            }
        }
        return earliest == NONE ? NONE : earliest - hour;
    }

    public int wipes() {
        return wipeCount;
    }

    // ---- the journal

    public int entries() {
        return journal.kept();
    }

    public int machineAt(int entry) throws IndexOutOfBoundsException {
        if (entry < 0 || entry >= journal.kept()) {
            throw new IndexOutOfBoundsException("the journal keeps no such entry");
        }
        return journal.numbers[entry];
    }

    public int stateBefore(int machine, int changes) throws IndexOutOfBoundsException, IllegalArgumentException {
        Machine row = machineRow(machine);
        int kept = journal.kept();
        refuseOutside(changes, 0, kept);
        int state = row.state;
        for (int entry = 0; entry < changes; entry++) {
            if (journal.numbers[entry] == row.number) {
                state = journal.statesBefore[entry];
            }
        }
        return state;
    }

    // ---- looking at arguments

    private Machine machineRow(int machine) {
        if (machine < 0 || machine >= machines.length) {
            throw new IndexOutOfBoundsException("there is no such machine");
        }
        return machines[machine];
    }

    private Image imageRow(int image) {
        if (image < 0 || image >= images.length) {
            throw new IndexOutOfBoundsException("there is no such image number");
        }
        return images[image];
    }

    private Image setImageRow(int image) {
        Image row = imageRow(image);
        if (!row.isSet) {
            throw new IndexOutOfBoundsException("it is not an image that is set");
        }
        return row;
    }

    private boolean isNoRack(int rack) {
        return rack < 0 || rack >= batches.length;
    }

    private static void refuseOutside(int number, int least, int most) {
        if (number < least || number > most) {
            throw new IllegalArgumentException("a number is out of range");
        }
    }

    // ---- changes of a machine

    private void change(Machine row, int state) {
        journal.add(row.number, row.state);
        row.state = state;
    }

    private void answerReport(Machine row, boolean isMoved) {
        if (row.state == UNKNOWN) {
            change(row, IDLE);
        } else if (row.state == INSTALLING) {
            fail(row);
        } else if (row.state == QUEUED && isMoved) {
            row.ticket = drawTicket();
        }
    }

    private void enqueue(Machine row) {
        row.ticket = drawTicket();
        change(row, QUEUED);
    }

    private void fail(Machine row) {
        row.failures++;
        if (row.failures >= mostFailures) {
            change(row, QUARANTINED);
        } else {
            row.end = hour + (firstBackoff << (row.failures - 1));
            change(row, WAITING);
        }
    }

    private void wipe(Machine row) {
        wipeCount++;
        change(row, IDLE);
    }

    private void begin(Machine row) {
        Image match = matchFor(row);
        if (match == null) {
            change(row, IDLE);
        } else {
            row.image = match.number;
            row.end = hour + match.time;
            change(row, INSTALLING);
        }
    }

    // ---- the hours

    private void passHour() {
        hour++;
        failOverdueInstallations();
        wipeDrainedMachines();
        enqueueRestedMachines();
        beginInstallations();
    }

    private void failOverdueInstallations() {
        for (int i = 0; i < machines.length; i++) {
            if (machines[i].isOver(INSTALLING, hour)) {
                fail(machines[i]);
            }
        }
    }

    private void wipeDrainedMachines() {
        for (int i = 0; i < machines.length; i++) {
            if (machines[i].isOver(DRAINING, hour)) {
                wipe(machines[i]);
            }
        }
    }

    private void enqueueRestedMachines() {
        for (int i = 0; i < machines.length; i++) {
            if (machines[i].isOver(WAITING, hour)) {
                enqueue(machines[i]);
            }
        }
    }

    // ---- racks and their queues

    private void beginInstallations() {
        for (int rack = 0; rack < batches.length; rack++) {
            fillBatch(rack, batches[rack]);
        }
    }

    private void fillBatch(int rack, int batch) {
        // Each round takes a machine out of the queue, so as many rounds as
        // there are machines empty any queue.
        for (int round = 0; round < MACHINE_COUNT; round++) {
            Machine first = countInstalling(rack) < batch ? queuedAt(rack, 0) : null;
            if (first == null) {
                return;
            }
            begin(first);
        }
    }

    private int countInstalling(int rack) {
        int count = 0;
        for (int i = 0; i < machines.length; i++) {
            if (machines[i].state == INSTALLING && machines[i].rack == rack) {
                count++;
            }
        }
        return count;
    }

    // The queues are held as tickets: whoever joins a queue draws a greater
    // one than all before, so leaving a queue, from any place, needs no step.
    private int drawTicket() {
        lastTicket++;
        return lastTicket;
    }

    private Machine queuedAt(int rack, int place) {
        for (int i = 0; i < machines.length; i++) {
            Machine row = machines[i];
            if (row.isQueuedAt(rack) && countAhead(row) == place) {
                return row;
            }
        }
        return null;
    }

    private int countAhead(Machine row) {
        int count = 0;
        for (int i = 0; i < machines.length; i++) {
            Machine other = machines[i];
            if (other.isQueuedAt(row.rack) && other.ticket < row.ticket) {
                count++;
            }
        }
        return count;
    }

    // ---- matches and reasons

    private Image matchFor(Machine row) {
        Image best = null;
        for (int i = 0; i < images.length; i++) {
            Image image = images[i];
            if (image.matches(row) && (best == null || image.priority > best.priority)) {
                best = image;
            }
        }
        return best;
    }

    private static int reasonOfState(int state) {
        switch (state) {
            case UNKNOWN:
                return NOT_REPORTED;
            case IDLE:
                return NOT_ORDERED;
            case QUEUED:
                return BATCH;
            case INSTALLING:
                return AT_WORK;
            case WAITING:
                return BACKOFF;
            case DRAINING:
                return LEAVING;
            case QUARANTINED:
                return FAILURES;
            default:
                return NO_REASON;
        }
    }

    private static final class Machine {
        final int number;
        int state = UNKNOWN;
        int rack = 0;
        int memory = 0;
        int kind = 0;
        int tags = 0;
        int failures = 0;
        // These three keep what they were when a state ends that they belong to.
        int image = NONE;
        int end = NONE;
        int ticket = 0;

        Machine(int number) {
            this.number = number;
        }

        boolean bearsImage() {
            return state == INSTALLING || state == IN_USE || state == DRAINING;
        }

        boolean endsByItself() {
            return state == INSTALLING || state == WAITING || state == DRAINING;
        }

        boolean isOver(int ownState, int hour) {
            return state == ownState && end <= hour;
        }

        boolean isQueuedAt(int ownRack) {
            return state == QUEUED && rack == ownRack;
        }
    }

    private static final class Image {
        final int number;
        boolean isSet = false;
        int priority = 0;
        int memory = 0;
        int kinds = 0;
        int required = 0;
        int barred = 0;
        int time = FIRST_TIME;

        Image(int number) {
            this.number = number;
        }

        boolean matches(Machine machine) {
            return isSet
                && machine.state != UNKNOWN
                && machine.memory >= memory
                && (kinds >> machine.kind & 1) == 1
                && (machine.tags & required) == required
                && (machine.tags & barred) == 0;
        }
    }

    // The latest entry stands at 0. The state after a change is not held: the
    // machine's next entry, or its state now, tells it.
    private static final class Journal {
        final int[] numbers = new int[40];
        final int[] statesBefore = new int[40];
        int added = 0;

        int kept() {
            return Math.min(added, numbers.length);
        }

        void add(int number, int stateBefore) {
            for (int i = numbers.length - 1; i > 0; i--) {
                numbers[i] = numbers[i - 1];
                statesBefore[i] = statesBefore[i - 1];
            }
            numbers[0] = number;
            statesBefore[0] = stateBefore;
            added++;
        }
    }
}
