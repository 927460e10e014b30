import java.util.ArrayList;
import java.util.List;

/**
 * The document once more, held in another way than the program holds it: lists
 * for the queues, the whole journal, and nextChange found by letting hours pass.
 */
final class Model {
    private static final int UNKNOWN = 0, IDLE = 1, QUEUED = 2, INSTALLING = 3, WAITING = 4, IN_USE = 5, DRAINING = 6, QUARANTINED = 7;
    private static final int[] REASONS = {1, 3, 4, 5, 6, 0, 7, 8};
    // The longest state that ends by itself: 24 hours, doubled 7 times.
    private static final int LONGEST = 24 * 128;

    // state, rack, memory, kind, tags, image, hours left, failures
    private final int[][] machines = new int[16][];
    // priority, memory, kinds, required, barred, time; null: not set
    private final int[][] images = new int[8][];
    private final int[] batch = {2, 2, 2, 2};
    private final List<List<Integer>> queues = new ArrayList<>();
    private final List<int[]> journal = new ArrayList<>();
    private int first = 1;
    private int most = 3;
    private int hour = 0;
    private int wipes = 0;

    Model() {
        for (int i = 0; i < 16; i++) {
            machines[i] = new int[] {UNKNOWN, 0, 0, 0, 0, -1, 0, 0};
        }
        for (int rack = 0; rack < 4; rack++) {
            queues.add(new ArrayList<>());
        }
    }

    private Model copy() {
        Model copy = new Model();
        for (int i = 0; i < 16; i++) {
            copy.machines[i] = machines[i].clone();
        }
        for (int i = 0; i < 8; i++) {
            copy.images[i] = images[i] == null ? null : images[i].clone();
        }
        for (int rack = 0; rack < 4; rack++) {
            copy.batch[rack] = batch[rack];
            copy.queues.get(rack).addAll(queues.get(rack));
        }
        copy.journal.addAll(journal);
        copy.first = first;
        copy.most = most;
        copy.hour = hour;
        copy.wipes = wipes;
        return copy;
    }

    private static boolean in(int n, int low, int high) {
        return low <= n && n <= high;
    }

    private static void index(boolean isThere) {
        if (!isThere) {
            throw new IndexOutOfBoundsException();
        }
    }

    private static void argument(boolean isGood) {
        if (!isGood) {
            throw new IllegalArgumentException();
        }
    }

    private static void state(boolean isGood) {
        if (!isGood) {
            throw new IllegalStateException();
        }
    }

    private int[] machine(int i) {
        index(in(i, 0, 15));
        return machines[i];
    }

    private void become(int i, int after) {
        journal.add(new int[] {i, machines[i][0], after});
        machines[i][0] = after;
        if (after != INSTALLING && after != IN_USE && after != DRAINING) {
            machines[i][5] = -1;
        }
    }

    private void join(int i) {
        queues.get(machines[i][1]).add(i);
    }

    private void leave(int i) {
        for (List<Integer> queue : queues) {
            queue.remove(Integer.valueOf(i));
        }
    }

    private void begin() {
        for (int rack = 0; rack < 4; rack++) {
            List<Integer> queue = queues.get(rack);
            while (installing(rack) < batch[rack] && !queue.isEmpty()) {
                int i = queue.remove(0);
                int image = matchOf(i);
                if (image < 0) {
                    become(i, IDLE);
                } else {
                    become(i, INSTALLING);
                    machines[i][5] = image;
                    machines[i][6] = images[image][5];
                }
            }
        }
    }

    private void fail(int i) {
        int[] m = machines[i];
        m[7]++;
        if (m[7] >= most) {
            become(i, QUARANTINED);
        } else {
            become(i, WAITING);
            m[6] = first;
            for (int n = 1; n < m[7]; n++) {
                m[6] *= 2;
            }
        }
    }

    private void wipe(int i) {
        wipes++;
        become(i, IDLE);
    }

    private static boolean runs(int[] m) {
        return m[0] == INSTALLING || m[0] == WAITING || m[0] == DRAINING;
    }

    void setImage(int image, int priority, int memory, int kinds, int required, int barred) {
        index(in(image, 0, 7));
        argument(in(priority, 0, 9) && in(memory, 0, 99) && in(kinds, 0, 15) && in(required, 0, 15) && in(barred, 0, 15));
        int time = images[image] == null ? 2 : images[image][5];
        images[image] = new int[] {priority, memory, kinds, required, barred, time};
        begin();
    }

    int setTime(int image, int hours) {
        index(in(image, 0, 7) && images[image] != null);
        argument(in(hours, 1, 24));
        int before = images[image][5];
        images[image][5] = hours;
        begin();
        return before;
    }

    void dropImage(int image) {
        index(in(image, 0, 7) && images[image] != null);
        images[image] = null;
        begin();
    }

    int setBatch(int rack, int number) {
        index(in(rack, 0, 3));
        argument(in(number, 0, 4));
        int before = batch[rack];
        batch[rack] = number;
        begin();
        return before;
    }

    void setRetries(int backoff, int failures) {
        argument(in(backoff, 1, 24) && in(failures, 1, 9));
        first = backoff;
        most = failures;
        begin();
    }

    int report(int i, int rack, int memory, int kind, int tags) {
        index(in(i, 0, 15) && in(rack, 0, 3));
        argument(in(memory, 0, 99) && in(kind, 0, 3) && in(tags, 0, 15));
        int[] m = machines[i];
        int old = m[1];
        m[1] = rack;
        m[2] = memory;
        m[3] = kind;
        m[4] = tags;
        if (m[0] == UNKNOWN) {
            become(i, IDLE);
        }
        if (m[0] == QUEUED && old != rack) {
            leave(i);
            join(i);
        }
        if (m[0] == INSTALLING) {
            fail(i);
        }
        begin();
        return m[0];
    }

    int order(int i) {
        int[] m = machine(i);
        state(m[0] == IDLE && matchOf(i) >= 0);
        become(i, QUEUED);
        join(i);
        begin();
        return m[0];
    }

    void cancel(int i) {
        int[] m = machine(i);
        state(m[0] == QUEUED || m[0] == WAITING);
        leave(i);
        become(i, IDLE);
        begin();
    }

    int finish(int i, boolean isGood) {
        int[] m = machine(i);
        state(m[0] == INSTALLING);
        if (isGood) {
            become(i, IN_USE);
            m[7] = 0;
        } else {
            fail(i);
        }
        begin();
        return m[0];
    }

    void retire(int i, int hours) {
        int[] m = machine(i);
        argument(in(hours, 0, 48));
        state(m[0] == IN_USE);
        if (hours > 0) {
            become(i, DRAINING);
            m[6] = hours;
        } else {
            wipe(i);
        }
        begin();
    }

    void keep(int i) {
        state(machine(i)[0] == DRAINING);
        become(i, IN_USE);
        begin();
    }

    void release(int i) {
        int[] m = machine(i);
        state(m[0] == QUARANTINED);
        become(i, IDLE);
        m[7] = 0;
        begin();
    }

    int advance(int hours) {
        argument(in(hours, 1, 200));
        int before = journal.size();
        for (int n = 0; n < hours; n++) {
            pass();
        }
        return journal.size() - before;
    }

    private void pass() {
        hour++;
        List<Integer> over = new ArrayList<>();
        for (int i = 0; i < 16; i++) {
            if (runs(machines[i]) && --machines[i][6] == 0) {
                over.add(i);
            }
        }
        for (int state : new int[] {INSTALLING, DRAINING, WAITING}) {
            for (int i : over) {
                // A machine that fails in this hour is WAITING with hours left.
                if (machines[i][0] != state || machines[i][6] != 0) {
                    continue;
                }
                if (state == INSTALLING) {
                    fail(i);
                } else if (state == DRAINING) {
                    wipe(i);
                } else {
                    become(i, QUEUED);
                    join(i);
                }
            }
        }
        begin();
    }

    int now() {
        return hour;
    }

    int stateOf(int i) {
        return machine(i)[0];
    }

    int reason(int i) {
        int[] m = machine(i);
        return (m[0] == IDLE || m[0] == QUEUED) && matchOf(i) < 0 ? 2 : REASONS[m[0]];
    }

    int matchOf(int i) {
        int[] m = machine(i);
        for (int priority = 9; priority >= 0; priority--) {
            for (int image = 0; image < 8; image++) {
                if (images[image] != null && images[image][0] == priority && matches(images[image], m)) {
                    return image;
                }
            }
        }
        return -1;
    }

    private static boolean matches(int[] image, int[] m) {
        if (m[0] == UNKNOWN || m[2] < image[1] || !has(image[2], m[3])) {
            return false;
        }
        for (int tag = 0; tag < 4; tag++) {
            if (has(image[3], tag) && !has(m[4], tag) || has(image[4], tag) && has(m[4], tag)) {
                return false;
            }
        }
        return true;
    }

    private static boolean has(int set, int member) {
        return (set & 1 << member) != 0;
    }

    int imageOf(int i) {
        return machine(i)[5];
    }

    int endOf(int i) {
        int[] m = machine(i);
        return runs(m) ? hour + m[6] : -1;
    }

    int failuresOf(int i) {
        return machine(i)[7];
    }

    int installing(int rack) {
        index(in(rack, 0, 3));
        int count = 0;
        for (int[] m : machines) {
            count += m[0] == INSTALLING && m[1] == rack ? 1 : 0;
        }
        return count;
    }

    int queueAt(int rack, int place) {
        index(in(rack, 0, 3) && place >= 0);
        List<Integer> queue = queues.get(rack);
        return place < queue.size() ? queue.get(place) : -1;
    }

    int nextChange() {
        Model later = copy();
        for (int hours = 1; hours <= LONGEST; hours++) {
            if (later.advance(1) > 0) {
                return hours;
            }
        }
        return -1;
    }

    int wipes() {
        return wipes;
    }

    int entries() {
        return Math.min(40, journal.size());
    }

    int machineAt(int entry) {
        index(in(entry, 0, entries() - 1));
        return journal.get(journal.size() - 1 - entry)[0];
    }

    int stateBefore(int i, int changes) {
        int[] m = machine(i);
        argument(in(changes, 0, entries()));
        int state = m[0];
        for (int n = 0; n < changes; n++) {
            int[] entry = journal.get(journal.size() - 1 - n);
            if (entry[0] == i) {
                if (entry[2] != state) {
                    throw new AssertionError("the journal of the model has a gap");
                }
                state = entry[1];
            }
        }
        return state;
    }
}
