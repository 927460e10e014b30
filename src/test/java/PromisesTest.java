import java.util.function.Supplier;

/** Each promise of the document: ordinary inputs, the edges it names, wrong inputs. */
public final class PromisesTest {
    private static final Class<IndexOutOfBoundsException> NO_SUCH = IndexOutOfBoundsException.class;
    private static final Class<IllegalArgumentException> BAD_NUMBER = IllegalArgumentException.class;
    private static final Class<IllegalStateException> BAD_STATE = IllegalStateException.class;
    private static final int[] NO_MACHINES = {-1, 16, Integer.MIN_VALUE, Integer.MAX_VALUE};
    private static final int[] NO_RACKS = {-1, 4, Integer.MIN_VALUE, Integer.MAX_VALUE};
    private static final int[] NO_IMAGES = {-1, 8, Integer.MIN_VALUE, Integer.MAX_VALUE};

    public static void main(String[] args) {
        aNewObject();
        setImage();
        setImageKeepsTheTime();
        setTime();
        dropImage();
        setBatch();
        setRetries();
        report();
        reportOfQueued();
        reportOfInstalling();
        reportInOtherStates();
        order();
        orderBehindOthers();
        cancel();
        finish();
        retire();
        keep();
        release();
        advance();
        advanceInOrder();
        advanceCountsAllEntries();
        now();
        stateOf();
        reason();
        matchOf();
        matchOfSets();
        imageOf();
        endOf();
        endOfDoubles();
        failuresOf();
        installing();
        queueAt();
        nextChange();
        wipes();
        entries();
        machineAt();
        stateBefore();
        Due.end();
    }

    // ---- the promises

    private static void aNewObject() {
        MachineFoundry x = new MachineFoundry();
        for (int machine = 0; machine < 16; machine++) {
            Due.same("new: stateOf", x.stateOf(machine), MachineFoundry.UNKNOWN);
            Due.same("new: failuresOf", x.failuresOf(machine), 0);
            Due.same("new: matchOf", x.matchOf(machine), MachineFoundry.NONE);
        }
        Due.same("new: now", x.now(), 0);
        Due.same("new: entries", x.entries(), 0);
        Due.same("new: wipes", x.wipes(), 0);
        for (int image = 0; image < 8; image++) {
            int number = image;
            Due.thrown("new: dropImage(" + image + ")", NO_SUCH, () -> x.dropImage(number));
        }
        for (int rack = 0; rack < 4; rack++) {
            Due.queue("new", x, rack, "[]");
            Due.same("new: the batch", x.setBatch(rack, 2), 2);
        }
        MachineFoundry y = Scenes.withOrdered(1);
        Due.same("new: the first failure", y.finish(0, false), MachineFoundry.WAITING);
        Due.same("new: the first backoff", y.endOf(0), 1);
        y.advance(1);
        Due.same("new: the second failure", y.finish(0, false), MachineFoundry.WAITING);
        Due.same("new: the second backoff", y.endOf(0), 3);
        y.advance(2);
        Due.same("new: the third failure", y.finish(0, false), MachineFoundry.QUARANTINED);
    }

    private static void setImage() {
        MachineFoundry x = new MachineFoundry();
        x.report(0, 0, 50, 2, 5);
        x.setImage(7, 9, 99, 15, 15, 15);
        Due.same("setImage: too little memory", x.matchOf(0), MachineFoundry.NONE);
        x.setImage(7, 0, 50, 4, 5, 10);
        Due.same("setImage: in place of what it was", x.matchOf(0), 7);
        x.setImage(0, 0, 0, 0, 0, 0);
        Due.same("setImage: an image of no kind", x.matchOf(0), 7);
        Supplier<MachineFoundry> scene = () -> Scenes.withOrdered(3);
        for (int image : NO_IMAGES) {
            Due.refused("setImage(" + image + ")", NO_SUCH, scene, y -> y.setImage(image, 0, 0, 15, 0, 0));
            Due.refused("setImage(" + image + ", wrong)", NO_SUCH, scene, y -> y.setImage(image, 10, 0, 15, 0, 0));
        }
        for (int wrong : new int[] {-1, 10, Integer.MIN_VALUE, Integer.MAX_VALUE}) {
            Due.refused("priority " + wrong, BAD_NUMBER, scene, y -> y.setImage(1, wrong, 0, 15, 0, 0));
        }
        for (int wrong : new int[] {-1, 100, Integer.MIN_VALUE, Integer.MAX_VALUE}) {
            Due.refused("memory " + wrong, BAD_NUMBER, scene, y -> y.setImage(1, 0, wrong, 15, 0, 0));
        }
        for (int wrong : new int[] {-1, 16, Integer.MIN_VALUE, Integer.MAX_VALUE}) {
            Due.refused("kinds " + wrong, BAD_NUMBER, scene, y -> y.setImage(0, 0, 0, wrong, 0, 0));
            Due.refused("required " + wrong, BAD_NUMBER, scene, y -> y.setImage(0, 0, 0, 1, wrong, 0));
            Due.refused("barred " + wrong, BAD_NUMBER, scene, y -> y.setImage(0, 0, 0, 1, 0, wrong));
        }
    }

    private static void setImageKeepsTheTime() {
        MachineFoundry x = Scenes.withImage();
        Due.same("setImage: the time of a new image", x.setTime(0, 9), 2);
        x.setImage(0, 1, 1, 1, 1, 1);
        Due.same("setImage: the time of one that was set stays", x.setTime(0, 9), 9);
        x.dropImage(0);
        x.setImage(0, 1, 1, 1, 1, 1);
        Due.same("setImage: the time of one that was dropped", x.setTime(0, 9), 2);
    }

    private static void setTime() {
        MachineFoundry x = Scenes.withIdle(3);
        Due.same("setTime(0, 24)", x.setTime(0, 24), 2);
        x.order(0);
        Due.same("setTime(0, 1)", x.setTime(0, 1), 24);
        x.order(1);
        Due.same("setTime: what began before", x.endOf(0), 24);
        Due.same("setTime: what began behind", x.endOf(1), 1);
        Supplier<MachineFoundry> scene = () -> Scenes.withOrdered(3);
        for (int image : NO_IMAGES) {
            Due.refused("setTime(" + image + ", 1)", NO_SUCH, scene, y -> y.setTime(image, 1));
        }
        Due.refused("setTime, not set", NO_SUCH, scene, y -> y.setTime(1, 1));
        Due.refused("setTime, not set and wrong hours", NO_SUCH, scene, y -> y.setTime(1, 0));
        for (int wrong : new int[] {0, 25, -1, Integer.MIN_VALUE, Integer.MAX_VALUE}) {
            Due.refused("setTime(0, " + wrong + ")", BAD_NUMBER, scene, y -> y.setTime(0, wrong));
        }
    }

    private static void dropImage() {
        MachineFoundry x = Scenes.withOrdered(3);
        x.finish(0, true);
        x.dropImage(0);
        Due.states("dropImage", x, MachineFoundry.IN_USE, MachineFoundry.INSTALLING, MachineFoundry.INSTALLING);
        Due.same("dropImage: what is installed", x.imageOf(0), 0);
        Due.same("dropImage: what is being installed", x.imageOf(1), 0);
        Due.same("dropImage: no match", x.matchOf(0), MachineFoundry.NONE);
        Due.thrown("dropImage twice", NO_SUCH, () -> x.dropImage(0));
        Due.thrown("setTime of a dropped image", NO_SUCH, () -> x.setTime(0, 1));
        Due.same("dropImage: installation goes on", x.finish(1, true), MachineFoundry.IN_USE);
        for (int image : NO_IMAGES) {
            Due.refused("dropImage(" + image + ")", NO_SUCH, () -> Scenes.withOrdered(3), y -> y.dropImage(image));
        }
        Due.refused("dropImage(3)", NO_SUCH, () -> Scenes.withOrdered(3), y -> y.dropImage(3));
    }

    private static void setBatch() {
        MachineFoundry x = Scenes.withOrdered(8);
        Due.queue("setBatch: 2", x, 0, "[2 3 4 5 6 7]");
        Due.same("setBatch(0, 4)", x.setBatch(0, 4), 2);
        Due.queue("setBatch: 4", x, 0, "[4 5 6 7]");
        Due.same("setBatch(0, 1)", x.setBatch(0, 1), 4);
        Due.same("setBatch: what is INSTALLING goes on", x.installing(0), 4);
        for (int machine = 0; machine < 3; machine++) {
            x.finish(machine, true);
            Due.queue("setBatch: above the batch", x, 0, "[4 5 6 7]");
        }
        x.finish(3, true);
        Due.queue("setBatch: below the batch again", x, 0, "[5 6 7]");
        Due.same("setBatch(0, 0)", x.setBatch(0, 0), 1);
        x.finish(4, true);
        Due.queue("setBatch: none", x, 0, "[5 6 7]");
        MachineFoundry full = Scenes.withIdle(16);
        full.setBatch(0, 0);
        for (int machine = 0; machine < 16; machine++) {
            full.order(machine);
        }
        full.dropImage(0);
        full.setBatch(0, 1);
        Due.queue("setBatch: none of 16 has a match", full, 0, "[]");
        Due.same("setBatch: the last of 16", full.stateOf(15), MachineFoundry.IDLE);
        Supplier<MachineFoundry> scene = () -> Scenes.withOrdered(5);
        for (int rack : NO_RACKS) {
            Due.refused("setBatch(" + rack + ", 1)", NO_SUCH, scene, y -> y.setBatch(rack, 1));
            Due.refused("setBatch(" + rack + ", 5)", NO_SUCH, scene, y -> y.setBatch(rack, 5));
        }
        for (int wrong : new int[] {-1, 5, Integer.MIN_VALUE, Integer.MAX_VALUE}) {
            Due.refused("setBatch(0, " + wrong + ")", BAD_NUMBER, scene, y -> y.setBatch(0, wrong));
        }
    }

    private static void setRetries() {
        MachineFoundry x = Scenes.withOrdered(2);
        x.finish(0, false);
        x.setRetries(24, 1);
        Due.same("setRetries: what is WAITING stays so", x.stateOf(0), MachineFoundry.WAITING);
        Due.same("setRetries: its hour too", x.endOf(0), 1);
        Due.same("setRetries: the most failures", x.finish(1, false), MachineFoundry.QUARANTINED);
        x.setRetries(24, 9);
        Due.same("setRetries: what is QUARANTINED stays so", x.stateOf(1), MachineFoundry.QUARANTINED);
        x.advance(1);
        Due.same("setRetries: the second failure", x.finish(0, false), MachineFoundry.WAITING);
        Due.same("setRetries: the first backoff", x.endOf(0), 1 + 48);
        x.advance(48);
        x.setRetries(1, 2);
        Due.same("setRetries: more failures than the most", x.finish(0, false), MachineFoundry.QUARANTINED);
        Supplier<MachineFoundry> scene = () -> Scenes.withOrdered(3);
        for (int wrong : new int[] {0, -1, 25, Integer.MIN_VALUE, Integer.MAX_VALUE}) {
            Due.refused("setRetries(" + wrong + ", 1)", BAD_NUMBER, scene, y -> y.setRetries(wrong, 1));
        }
        for (int wrong : new int[] {0, -1, 10, Integer.MIN_VALUE, Integer.MAX_VALUE}) {
            Due.refused("setRetries(2, " + wrong + ")", BAD_NUMBER, scene, y -> y.setRetries(2, wrong));
        }
    }

    private static void report() {
        MachineFoundry x = Scenes.withImage();
        Due.same("report(15, 3, 99, 3, 15)", x.report(15, 3, 99, 3, 15), MachineFoundry.IDLE);
        Due.same("report: an entry", x.entries(), 1);
        Due.same("report again", x.report(15, 0, 0, 0, 0), MachineFoundry.IDLE);
        Due.same("report again: no entry", x.entries(), 1);
        Supplier<MachineFoundry> scene = () -> Scenes.withOrdered(4);
        for (int machine : NO_MACHINES) {
            Due.refused("report(" + machine + ")", NO_SUCH, scene, y -> y.report(machine, 0, 0, 0, 0));
            Due.refused("report(" + machine + ", wrong)", NO_SUCH, scene, y -> y.report(machine, 0, 100, 0, 0));
        }
        for (int rack : NO_RACKS) {
            Due.refused("report to rack " + rack, NO_SUCH, scene, y -> y.report(0, rack, 0, 0, 0));
            Due.refused("report to rack " + rack + ", wrong", NO_SUCH, scene, y -> y.report(9, rack, 0, 0, -1));
        }
        for (int wrong : new int[] {-1, 100, Integer.MIN_VALUE, Integer.MAX_VALUE}) {
            Due.refused("report of memory " + wrong, BAD_NUMBER, scene, y -> y.report(0, 1, wrong, 0, 0));
        }
        for (int wrong : new int[] {-1, 4, Integer.MIN_VALUE, Integer.MAX_VALUE}) {
            Due.refused("report of kind " + wrong, BAD_NUMBER, scene, y -> y.report(2, 1, 0, wrong, 0));
        }
        for (int wrong : new int[] {-1, 16, Integer.MIN_VALUE, Integer.MAX_VALUE}) {
            Due.refused("report of tags " + wrong, BAD_NUMBER, scene, y -> y.report(9, 1, 0, 0, wrong));
        }
    }

    private static void reportOfQueued() {
        MachineFoundry x = Scenes.withOrdered(6);
        x.report(6, 1, 0, 0, 0);
        x.setBatch(1, 0);
        x.order(6);
        int entries = x.entries();
        Due.same("report of QUEUED", x.report(3, 0, 99, 3, 15), MachineFoundry.QUEUED);
        Due.queue("report of QUEUED, the same rack", x, 0, "[2 3 4 5]");
        Due.same("report of QUEUED, another rack", x.report(3, 1, 10, 0, 0), MachineFoundry.QUEUED);
        Due.queue("report of QUEUED, the old rack", x, 0, "[2 4 5]");
        Due.queue("report of QUEUED, the new rack", x, 1, "[6 3]");
        x.report(3, 0, 10, 0, 0);
        Due.queue("report of QUEUED, back again", x, 0, "[2 4 5 3]");
        Due.same("report of QUEUED: no entry", x.entries(), entries);
        Due.same("report of QUEUED, to a rack with room", x.report(4, 2, 10, 0, 0), MachineFoundry.INSTALLING);
        x.setImage(0, 0, 0, 1, 0, 0);
        Due.same("report of QUEUED, no match, room", x.report(5, 3, 10, 1, 0), MachineFoundry.IDLE);
    }

    private static void reportOfInstalling() {
        MachineFoundry x = Scenes.withOrdered(4);
        Due.same("report of INSTALLING", x.report(0, 1, 10, 0, 0), MachineFoundry.WAITING);
        Due.same("report of INSTALLING: its failures", x.failuresOf(0), 1);
        Due.same("report of INSTALLING: the next one begins", x.stateOf(2), MachineFoundry.INSTALLING);
        x.setBatch(1, 0);
        x.advance(1);
        Due.queue("report of INSTALLING: queued in the new rack", x, 1, "[0]");
        x.setRetries(1, 1);
        Due.same("report of INSTALLING, the last try", x.report(1, 0, 10, 0, 0), MachineFoundry.QUARANTINED);
    }

    private static void reportInOtherStates() {
        for (int state : new int[] {MachineFoundry.IDLE, MachineFoundry.WAITING, MachineFoundry.IN_USE,
                MachineFoundry.DRAINING, MachineFoundry.QUARANTINED}) {
            MachineFoundry x = Scenes.inEveryState();
            int entries = x.entries();
            int end = x.endOf(state);
            int image = x.imageOf(state);
            int failures = x.failuresOf(state);
            x.setImage(1, 9, 77, 8, 6, 9);
            Due.same("report in state " + state, x.report(state, 3, 77, 3, 6), state);
            Due.same("report in state " + state + ": no entry", x.entries(), entries);
            Due.same("report in state " + state + ": what is known", x.matchOf(state), 1);
            Due.same("report in state " + state + ": endOf", x.endOf(state), end);
            Due.same("report in state " + state + ": imageOf", x.imageOf(state), image);
            Due.same("report in state " + state + ": failuresOf", x.failuresOf(state), failures);
        }
    }

    private static void order() {
        MachineFoundry x = Scenes.withIdle(3);
        Due.same("order(0)", x.order(0), MachineFoundry.INSTALLING);
        Due.same("order: two entries", x.stateBefore(0, 1), MachineFoundry.QUEUED);
        Due.same("order: two entries", x.stateBefore(0, 2), MachineFoundry.IDLE);
        x.order(1);
        Due.same("order(2)", x.order(2), MachineFoundry.QUEUED);
        for (int machine : NO_MACHINES) {
            Due.refused("order(" + machine + ")", NO_SUCH, () -> Scenes.withOrdered(3), y -> y.order(machine));
        }
        for (int state = 0; state < 8; state++) {
            int machine = state;
            if (state != MachineFoundry.IDLE) {
                Due.refused("order in state " + state, BAD_STATE, Scenes::inEveryState, y -> y.order(machine));
            }
        }
        Supplier<MachineFoundry> unmatched = () -> {
            MachineFoundry y = Scenes.withIdle(2);
            y.setImage(0, 9, 11, 15, 0, 0);
            return y;
        };
        Due.refused("order without a match", BAD_STATE, unmatched, y -> y.order(0));
    }

    private static void orderBehindOthers() {
        MachineFoundry x = Scenes.withIdle(6);
        for (int machine = 5; machine >= 0; machine--) {
            x.order(machine);
        }
        Due.queue("order", x, 0, "[3 2 1 0]");
        x.cancel(3);
        x.order(3);
        Due.queue("order again", x, 0, "[2 1 0 3]");
        x.finish(5, true);
        Due.queue("order: the first one leaves", x, 0, "[1 0 3]");
        Due.same("order: the first one begins", x.stateOf(2), MachineFoundry.INSTALLING);
    }

    private static void cancel() {
        MachineFoundry x = Scenes.withOrdered(4);
        x.cancel(2);
        Due.same("cancel of QUEUED", x.stateOf(2), MachineFoundry.IDLE);
        Due.queue("cancel of QUEUED", x, 0, "[3]");
        x.finish(0, false);
        x.cancel(0);
        Due.same("cancel of WAITING", x.stateOf(0), MachineFoundry.IDLE);
        Due.same("cancel: its failures stay", x.failuresOf(0), 1);
        Due.same("cancel: no end", x.endOf(0), MachineFoundry.NONE);
        x.advance(1);
        Due.same("cancel: never QUEUED", x.stateOf(0), MachineFoundry.IDLE);
        for (int machine : NO_MACHINES) {
            Due.refused("cancel(" + machine + ")", NO_SUCH, () -> Scenes.withOrdered(3), y -> y.cancel(machine));
        }
        for (int state = 0; state < 8; state++) {
            int machine = state;
            if (state != MachineFoundry.QUEUED && state != MachineFoundry.WAITING) {
                Due.refused("cancel in state " + state, BAD_STATE, Scenes::inEveryState, y -> y.cancel(machine));
            }
        }
    }

    private static void finish() {
        MachineFoundry x = Scenes.withOrdered(4);
        Due.same("finish(0, false)", x.finish(0, false), MachineFoundry.WAITING);
        Due.same("finish: the next one begins", x.stateOf(2), MachineFoundry.INSTALLING);
        Due.same("finish(1, true)", x.finish(1, true), MachineFoundry.IN_USE);
        x.finish(2, true);
        x.finish(3, true);
        x.advance(1);
        Due.same("finish: again at work", x.stateOf(0), MachineFoundry.INSTALLING);
        Due.same("finish: its failures so far", x.failuresOf(0), 1);
        Due.same("finish(0, true)", x.finish(0, true), MachineFoundry.IN_USE);
        Due.same("finish: no failures any more", x.failuresOf(0), 0);
        for (int machine : NO_MACHINES) {
            Due.refused("finish(" + machine + ")", NO_SUCH, () -> Scenes.withOrdered(3), y -> y.finish(machine, true));
        }
        for (int state = 0; state < 8; state++) {
            int machine = state;
            if (state != MachineFoundry.INSTALLING) {
                Due.refused("finish in state " + state, BAD_STATE, Scenes::inEveryState, y -> y.finish(machine, true));
                Due.refused("fail in state " + state, BAD_STATE, Scenes::inEveryState, y -> y.finish(machine, false));
            }
        }
    }

    private static void retire() {
        MachineFoundry x = Scenes.withInUse();
        x.advance(3);
        int entries = x.entries();
        x.retire(0, 48);
        Due.same("retire(0, 48)", x.stateOf(0), MachineFoundry.DRAINING);
        Due.same("retire: endOf", x.endOf(0), 51);
        Due.same("retire: not wiped yet", x.wipes(), 0);
        x.advance(47);
        Due.same("retire: an hour ahead", x.stateOf(0), MachineFoundry.DRAINING);
        x.advance(1);
        Due.same("retire: its end", x.stateOf(0), MachineFoundry.IDLE);
        Due.same("retire: wiped", x.wipes(), 1);
        Due.same("retire: two entries", x.entries(), entries + 2);
        MachineFoundry y = Scenes.withInUse();
        entries = y.entries();
        y.retire(0, 0);
        Due.same("retire(0, 0)", y.stateOf(0), MachineFoundry.IDLE);
        Due.same("retire(0, 0): wiped", y.wipes(), 1);
        Due.same("retire(0, 0): never DRAINING", y.entries(), entries + 1);
        for (int machine : NO_MACHINES) {
            Due.refused("retire(" + machine + ", 1)", NO_SUCH, () -> Scenes.withOrdered(3), z -> z.retire(machine, 1));
            Due.refused("retire(" + machine + ", 49)", NO_SUCH, () -> Scenes.withOrdered(3), z -> z.retire(machine, 49));
        }
        for (int wrong : new int[] {-1, 49, Integer.MIN_VALUE, Integer.MAX_VALUE}) {
            Due.refused("retire(0, " + wrong + ")", BAD_NUMBER, Scenes::withInUse, z -> z.retire(0, wrong));
            Due.refused("retire(9, " + wrong + ")", BAD_NUMBER, Scenes::withInUse, z -> z.retire(9, wrong));
        }
        for (int state = 0; state < 8; state++) {
            int machine = state;
            if (state != MachineFoundry.IN_USE) {
                Due.refused("retire in state " + state, BAD_STATE, Scenes::inEveryState, z -> z.retire(machine, 5));
            }
        }
    }

    private static void keep() {
        MachineFoundry x = Scenes.withInUse();
        x.retire(0, 2);
        x.advance(1);
        x.keep(0);
        Due.same("keep", x.stateOf(0), MachineFoundry.IN_USE);
        Due.same("keep: its image", x.imageOf(0), 0);
        Due.same("keep: no end", x.endOf(0), MachineFoundry.NONE);
        x.advance(9);
        Due.same("keep: never wiped", x.stateOf(0), MachineFoundry.IN_USE);
        Due.same("keep: no wipes", x.wipes(), 0);
        for (int machine : NO_MACHINES) {
            Due.refused("keep(" + machine + ")", NO_SUCH, () -> Scenes.withOrdered(3), y -> y.keep(machine));
        }
        for (int state = 0; state < 8; state++) {
            int machine = state;
            if (state != MachineFoundry.DRAINING) {
                Due.refused("keep in state " + state, BAD_STATE, Scenes::inEveryState, y -> y.keep(machine));
            }
        }
    }

    private static void release() {
        MachineFoundry x = Scenes.withIdle(1);
        x.setRetries(1, 1);
        x.order(0);
        x.finish(0, false);
        Due.same("release: ahead of it", x.failuresOf(0), 1);
        x.release(0);
        Due.same("release", x.stateOf(0), MachineFoundry.IDLE);
        Due.same("release: no failures any more", x.failuresOf(0), 0);
        for (int machine : NO_MACHINES) {
            Due.refused("release(" + machine + ")", NO_SUCH, () -> Scenes.withOrdered(3), y -> y.release(machine));
        }
        for (int state = 0; state < 8; state++) {
            int machine = state;
            if (state != MachineFoundry.QUARANTINED) {
                Due.refused("release in state " + state, BAD_STATE, Scenes::inEveryState, y -> y.release(machine));
            }
        }
    }

    private static void advance() {
        MachineFoundry x = Scenes.withOrdered(3);
        Due.same("advance: nothing ends", x.advance(1), 0);
        // Both time out in hour 2; the third begins in the same hour.
        Due.same("advance: two fail, one begins", x.advance(1), 3);
        Due.states("advance", x, MachineFoundry.WAITING, MachineFoundry.WAITING, MachineFoundry.INSTALLING);
        Due.same("advance: what began then", x.endOf(2), 4);
        Due.same("advance: what failed then", x.endOf(0), 3);
        // Both are QUEUED in hour 3, but only one finds room.
        Due.same("advance: two rest, one begins", x.advance(1), 3);
        Due.states("advance", x, MachineFoundry.INSTALLING, MachineFoundry.QUEUED, MachineFoundry.INSTALLING);
        for (int wrong : new int[] {0, -1, 201, Integer.MIN_VALUE, Integer.MAX_VALUE}) {
            Due.refused("advance(" + wrong + ")", BAD_NUMBER, () -> Scenes.withOrdered(3), y -> y.advance(wrong));
        }
    }

    /** In hour 6 one machine of each sort ends; the numbers run against the order that is due. */
    private static void advanceInOrder() {
        MachineFoundry x = Scenes.withImage();
        x.setTime(0, 6);
        x.setRetries(6, 3);
        for (int machine = 0; machine < 7; machine++) {
            x.report(machine, machine < 6 ? 0 : 1, 10, 0, 0);
        }
        x.setBatch(0, 4);
        for (int machine = 0; machine < 6; machine++) {
            x.order(machine);
        }
        x.finish(0, false);
        x.finish(1, false);
        x.finish(2, true);
        x.finish(3, true);
        x.retire(2, 6);
        x.retire(3, 6);
        x.setBatch(0, 2);
        x.order(6);
        Due.states("advance in order: ahead", x, MachineFoundry.WAITING, MachineFoundry.WAITING,
            MachineFoundry.DRAINING, MachineFoundry.DRAINING, MachineFoundry.INSTALLING, MachineFoundry.INSTALLING,
            MachineFoundry.INSTALLING);
        Due.same("advance in order", x.advance(6), 9);
        int[] due = {4, 5, 6, 2, 3, 0, 1, 0, 1};
        for (int i = 0; i < due.length; i++) {
            Due.same("advance in order: entry " + i, x.machineAt(due.length - 1 - i), due[i]);
        }
        Due.same("advance in order: the image is gone", x.imageOf(2), MachineFoundry.NONE);
        Due.same("advance in order: both wiped", x.wipes(), 2);
    }

    private static void advanceCountsAllEntries() {
        MachineFoundry x = Scenes.withIdle(16);
        x.setRetries(1, 9);
        x.setTime(0, 1);
        for (int rack = 0; rack < 4; rack++) {
            x.setBatch(rack, 4);
        }
        for (int machine = 0; machine < 16; machine++) {
            x.report(machine, machine % 4, 10, 0, 0);
            x.order(machine);
        }
        // Each machine fails 9 times, and is QUEUED and INSTALLING again 8 times.
        int added = 0;
        for (int i = 0; i < 3; i++) {
            added += x.advance(200);
        }
        Due.same("advance: entries beyond the 40", added, 16 * (9 + 8 + 8));
        Due.same("advance: the journal keeps 40", x.entries(), 40);
        Due.same("advance: all put aside", x.nextChange(), MachineFoundry.NONE);
    }

    private static void now() {
        MachineFoundry x = new MachineFoundry();
        x.advance(1);
        x.advance(200);
        Due.same("now", x.now(), 201);
        x.report(0, 0, 0, 0, 0);
        Due.thrown("advance(0)", BAD_NUMBER, () -> x.advance(0));
        Due.same("now: by advance alone", x.now(), 201);
    }

    private static void stateOf() {
        Due.states("stateOf", Scenes.inEveryState(), 0, 1, 2, 3, 4, 5, 6, 7);
        for (int machine : NO_MACHINES) {
            Due.refused("stateOf(" + machine + ")", NO_SUCH, () -> Scenes.withOrdered(3), y -> y.stateOf(machine));
        }
    }

    private static void reason() {
        MachineFoundry x = Scenes.inEveryState();
        int[] due = {MachineFoundry.NOT_REPORTED, MachineFoundry.NOT_ORDERED, MachineFoundry.BATCH,
            MachineFoundry.AT_WORK, MachineFoundry.BACKOFF, MachineFoundry.NO_REASON, MachineFoundry.LEAVING,
            MachineFoundry.FAILURES};
        for (int machine = 0; machine < 8; machine++) {
            Due.same("reason(" + machine + ")", x.reason(machine), due[machine]);
        }
        x.dropImage(0);
        due[MachineFoundry.IDLE] = MachineFoundry.NO_IMAGE;
        due[MachineFoundry.QUEUED] = MachineFoundry.NO_IMAGE;
        for (int machine = 0; machine < 8; machine++) {
            Due.same("reason(" + machine + ") without a match", x.reason(machine), due[machine]);
        }
        for (int machine : NO_MACHINES) {
            Due.refused("reason(" + machine + ")", NO_SUCH, () -> Scenes.withOrdered(3), y -> y.reason(machine));
        }
    }

    private static void matchOf() {
        MachineFoundry x = new MachineFoundry();
        x.setImage(5, 3, 0, 15, 0, 0);
        Due.same("matchOf: not reported", x.matchOf(0), MachineFoundry.NONE);
        x.report(0, 0, 0, 0, 0);
        Due.same("matchOf", x.matchOf(0), 5);
        x.setImage(6, 3, 0, 15, 0, 0);
        Due.same("matchOf: a later one of the same priority", x.matchOf(0), 5);
        x.setImage(2, 3, 0, 15, 0, 0);
        Due.same("matchOf: an earlier one of the same priority", x.matchOf(0), 2);
        x.setImage(7, 4, 0, 15, 0, 0);
        Due.same("matchOf: a greater priority", x.matchOf(0), 7);
        x.setImage(0, 2, 0, 15, 0, 0);
        Due.same("matchOf: a lower priority", x.matchOf(0), 7);
        x.dropImage(7);
        Due.same("matchOf: as things are now", x.matchOf(0), 2);
        for (int machine : NO_MACHINES) {
            Due.refused("matchOf(" + machine + ")", NO_SUCH, () -> Scenes.withOrdered(3), y -> y.matchOf(machine));
        }
    }

    private static void matchOfSets() {
        MachineFoundry x = new MachineFoundry();
        x.setImage(3, 0, 30, 15, 0, 0);
        x.report(0, 0, 29, 0, 0);
        Due.same("matchOf: less memory", x.matchOf(0), MachineFoundry.NONE);
        x.report(0, 0, 30, 0, 0);
        Due.same("matchOf: the least memory", x.matchOf(0), 3);
        for (int kind = 0; kind < 4; kind++) {
            x.report(0, 0, 99, kind, 0);
            for (int kinds = 0; kinds < 16; kinds++) {
                x.setImage(3, 0, 30, kinds, 0, 0);
                boolean isOne = kinds / (kind == 0 ? 1 : kind == 1 ? 2 : kind == 2 ? 4 : 8) % 2 == 1;
                Due.same("matchOf: kind " + kind + " of " + kinds, x.matchOf(0), isOne ? 3 : MachineFoundry.NONE);
            }
        }
        MachineFoundry y = new MachineFoundry();
        y.report(0, 0, 0, 0, 6);
        for (int tags = 0; tags < 16; tags++) {
            y.setImage(0, 0, 0, 1, tags, 0);
            boolean hasAll = tags == 0 || tags == 2 || tags == 4 || tags == 6;
            Due.same("matchOf: required " + tags, y.matchOf(0), hasAll ? 0 : MachineFoundry.NONE);
            y.setImage(0, 0, 0, 1, 0, tags);
            boolean hasNone = tags == 0 || tags == 1 || tags == 8 || tags == 9;
            Due.same("matchOf: barred " + tags, y.matchOf(0), hasNone ? 0 : MachineFoundry.NONE);
        }
    }

    private static void imageOf() {
        MachineFoundry x = Scenes.inEveryState();
        int[] due = {-1, -1, -1, 0, -1, 0, 0, -1};
        for (int machine = 0; machine < 8; machine++) {
            Due.same("imageOf(" + machine + ")", x.imageOf(machine), due[machine]);
        }
        x.setImage(1, 9, 0, 15, 0, 0);
        x.dropImage(0);
        for (int machine = 0; machine < 8; machine++) {
            Due.same("imageOf(" + machine + "), dropped", x.imageOf(machine), due[machine]);
        }
        x.setBatch(2, 1);
        Due.same("imageOf: the match when it began", x.imageOf(MachineFoundry.QUEUED), 1);
        x.setImage(0, 9, 0, 15, 0, 0);
        Due.same("imageOf: no later match", x.imageOf(MachineFoundry.QUEUED), 1);
        for (int machine : NO_MACHINES) {
            Due.refused("imageOf(" + machine + ")", NO_SUCH, () -> Scenes.withOrdered(3), y -> y.imageOf(machine));
        }
    }

    private static void endOf() {
        MachineFoundry x = Scenes.inEveryState();
        int[] due = {-1, -1, -1, 2, 7, -1, 9, -1};
        for (int machine = 0; machine < 8; machine++) {
            Due.same("endOf(" + machine + ")", x.endOf(machine), due[machine]);
        }
        x.advance(1);
        for (int machine = 0; machine < 8; machine++) {
            Due.same("endOf(" + machine + ") an hour later", x.endOf(machine), due[machine]);
        }
        for (int machine : NO_MACHINES) {
            Due.refused("endOf(" + machine + ")", NO_SUCH, () -> Scenes.withOrdered(3), y -> y.endOf(machine));
        }
    }

    private static void endOfDoubles() {
        MachineFoundry x = Scenes.withOrdered(1);
        x.setRetries(24, 9);
        int[] backoffs = {24, 48, 96, 192, 384, 768, 1536, 3072};
        for (int i = 0; i < backoffs.length; i++) {
            Due.same("failure " + (i + 1), x.finish(0, false), MachineFoundry.WAITING);
            Due.same("endOf behind failure " + (i + 1), x.endOf(0) - x.now(), backoffs[i]);
            Due.same("nextChange behind failure " + (i + 1), x.nextChange(), backoffs[i]);
            int left = backoffs[i];
            while (left > 0) {
                Due.same("still WAITING", x.stateOf(0), MachineFoundry.WAITING);
                int hours = left > 200 ? 200 : left > 1 ? left - 1 : 1;
                x.advance(hours);
                left -= hours;
            }
            Due.same("again at work", x.stateOf(0), MachineFoundry.INSTALLING);
        }
        Due.same("the ninth failure", x.finish(0, false), MachineFoundry.QUARANTINED);
        Due.same("its failures", x.failuresOf(0), 9);
    }

    private static void failuresOf() {
        MachineFoundry x = Scenes.inEveryState();
        int[] due = {0, 0, 0, 0, 1, 0, 0, 1};
        for (int machine = 0; machine < 8; machine++) {
            Due.same("failuresOf(" + machine + ")", x.failuresOf(machine), due[machine]);
        }
        x.advance(2);
        Due.same("failuresOf: time has passed", x.failuresOf(MachineFoundry.INSTALLING), 1);
        for (int machine : NO_MACHINES) {
            Due.refused("failuresOf(" + machine + ")", NO_SUCH, () -> Scenes.withOrdered(3), y -> y.failuresOf(machine));
        }
    }

    private static void installing() {
        MachineFoundry x = Scenes.withOrdered(3);
        x.report(9, 3, 0, 0, 0);
        x.order(9);
        Due.same("installing(0)", x.installing(0), 2);
        Due.same("installing(1)", x.installing(1), 0);
        Due.same("installing(3)", x.installing(3), 1);
        x.cancel(2);
        x.finish(0, true);
        Due.same("installing(0) behind finish", x.installing(0), 1);
        for (int rack : NO_RACKS) {
            Due.refused("installing(" + rack + ")", NO_SUCH, () -> Scenes.withOrdered(3), y -> y.installing(rack));
        }
    }

    private static void queueAt() {
        MachineFoundry x = Scenes.withOrdered(16);
        for (int place = 0; place < 14; place++) {
            Due.same("queueAt(0, " + place + ")", x.queueAt(0, place), place + 2);
        }
        Due.same("queueAt(0, 14)", x.queueAt(0, 14), MachineFoundry.NONE);
        Due.same("queueAt(0, MAX)", x.queueAt(0, Integer.MAX_VALUE), MachineFoundry.NONE);
        Due.same("queueAt(3, 0)", x.queueAt(3, 0), MachineFoundry.NONE);
        for (int rack : NO_RACKS) {
            Due.refused("queueAt(" + rack + ", 0)", NO_SUCH, () -> Scenes.withOrdered(4), y -> y.queueAt(rack, 0));
        }
        Due.refused("queueAt(0, -1)", NO_SUCH, () -> Scenes.withOrdered(4), y -> y.queueAt(0, -1));
        Due.refused("queueAt(0, MIN)", NO_SUCH, () -> Scenes.withOrdered(4), y -> y.queueAt(0, Integer.MIN_VALUE));
    }

    private static void nextChange() {
        MachineFoundry x = Scenes.inEveryState();
        Due.same("nextChange: INSTALLING", x.nextChange(), 2);
        x.finish(MachineFoundry.INSTALLING, true);
        x.advance(1);
        Due.same("nextChange: WAITING", x.nextChange(), 6);
        x.cancel(MachineFoundry.WAITING);
        Due.same("nextChange: DRAINING", x.nextChange(), 8);
        Due.same("nextChange: nothing before", x.advance(7), 0);
        Due.same("nextChange: an hour left", x.nextChange(), 1);
        Due.same("nextChange: then", x.advance(1), 1);
        Due.same("nextChange: QUEUED at a batch of 0", x.nextChange(), MachineFoundry.NONE);
    }

    private static void wipes() {
        MachineFoundry x = Scenes.withOrdered(2);
        x.finish(0, true);
        x.finish(1, true);
        x.retire(0, 0);
        x.retire(1, 3);
        Due.same("wipes", x.wipes(), 1);
        x.advance(3);
        Due.same("wipes of several machines", x.wipes(), 2);
        x.order(0);
        x.finish(0, true);
        x.retire(0, 0);
        Due.same("wipes of one again", x.wipes(), 3);
    }

    private static void entries() {
        MachineFoundry x = new MachineFoundry();
        for (int machine = 0; machine < 16; machine++) {
            x.report(machine, 0, 0, 0, 0);
            Due.same("entries", x.entries(), machine + 1);
        }
        x.setImage(0, 0, 0, 15, 0, 0);
        x.setBatch(0, 0);
        for (int machine = 0; machine < 15; machine++) {
            x.order(machine);
        }
        for (int machine = 0; machine < 8; machine++) {
            x.cancel(machine);
        }
        Due.same("entries: 39", x.entries(), 39);
        x.cancel(8);
        Due.same("entries: 40", x.entries(), 40);
        x.cancel(9);
        Due.same("entries: never more", x.entries(), 40);
    }

    private static void machineAt() {
        MachineFoundry x = Scenes.withIdle(16);
        for (int machine = 0; machine < 16; machine++) {
            Due.same("machineAt", x.machineAt(15 - machine), machine);
        }
        Due.thrown("machineAt(16)", NO_SUCH, () -> x.machineAt(16));
        x.setBatch(0, 0);
        for (int machine = 15; machine >= 0; machine--) {
            x.order(machine);
        }
        for (int machine = 0; machine < 10; machine++) {
            x.cancel(machine);
        }
        // 42 entries were added: the reports of the machines 0 and 1 are gone.
        Due.same("machineAt(0)", x.machineAt(0), 9);
        Due.same("machineAt(10)", x.machineAt(10), 0);
        Due.same("machineAt(39)", x.machineAt(39), 2);
        for (int wrong : new int[] {40, -1, Integer.MIN_VALUE, Integer.MAX_VALUE}) {
            Due.thrown("machineAt(" + wrong + ")", NO_SUCH, () -> x.machineAt(wrong));
        }
        Due.refused("machineAt(8) of 8", NO_SUCH, () -> Scenes.withOrdered(3), y -> y.machineAt(8));
        Due.refused("machineAt(-1)", NO_SUCH, () -> Scenes.withOrdered(3), y -> y.machineAt(-1));
    }

    private static void stateBefore() {
        MachineFoundry x = Scenes.withOrdered(1);
        x.report(1, 0, 0, 0, 0);
        x.finish(0, false);
        int[] due = {MachineFoundry.WAITING, MachineFoundry.INSTALLING, MachineFoundry.INSTALLING,
            MachineFoundry.QUEUED, MachineFoundry.IDLE, MachineFoundry.UNKNOWN};
        for (int changes = 0; changes < due.length; changes++) {
            Due.same("stateBefore(0, " + changes + ")", x.stateBefore(0, changes), due[changes]);
        }
        Due.same("stateBefore(1, 1)", x.stateBefore(1, 1), MachineFoundry.IDLE);
        Due.same("stateBefore(1, 2)", x.stateBefore(1, 2), MachineFoundry.UNKNOWN);
        Due.same("stateBefore(2, 5)", x.stateBefore(2, 5), MachineFoundry.UNKNOWN);
        Supplier<MachineFoundry> scene = () -> Scenes.withOrdered(3);
        for (int machine : NO_MACHINES) {
            Due.refused("stateBefore(" + machine + ", 0)", NO_SUCH, scene, y -> y.stateBefore(machine, 0));
            Due.refused("stateBefore(" + machine + ", -1)", NO_SUCH, scene, y -> y.stateBefore(machine, -1));
        }
        for (int wrong : new int[] {-1, 9, Integer.MIN_VALUE, Integer.MAX_VALUE}) {
            Due.refused("stateBefore(0, " + wrong + ")", BAD_NUMBER, scene, y -> y.stateBefore(0, wrong));
        }
        MachineFoundry full = Scenes.withIdle(1);
        full.setBatch(0, 0);
        for (int i = 0; i < 25; i++) {
            full.order(0);
            full.cancel(0);
        }
        for (int changes = 0; changes <= 40; changes++) {
            Due.same("stateBefore, a full journal", full.stateBefore(0, changes),
                changes % 2 == 0 ? MachineFoundry.IDLE : MachineFoundry.QUEUED);
        }
        Due.thrown("stateBefore(0, 41)", BAD_NUMBER, () -> full.stateBefore(0, 41));
    }
}
