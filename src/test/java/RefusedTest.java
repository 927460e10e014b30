/**
 * Each exception that a @throws line names, in each state that it is due in,
 * and the one that is named first where several apply; behind a refused call
 * the object is as if the call had never been.
 */
public final class RefusedTest {
    private static final Class<IndexOutOfBoundsException> NO_SUCH = IndexOutOfBoundsException.class;
    private static final Class<IllegalArgumentException> BAD_NUMBER = IllegalArgumentException.class;
    private static final Class<IllegalStateException> BAD_STATE = IllegalStateException.class;
    private static final int MIN = Integer.MIN_VALUE;
    private static final int MAX = Integer.MAX_VALUE;

    public static void main(String[] args) {
        imageNotSet();
        imageDropped();
        ordersInStates();
        orderWithoutMatch();
        orderOfDroppedMatch();
        cancelInStates();
        finishInStates();
        retireInStates();
        keepInStates();
        releaseInStates();
        noSuchEntry();
        noSuchChanges();
        severalForSetImage();
        severalForSetTime();
        severalForSetBatch();
        severalForSetRetries();
        severalForReport();
        severalForOrder();
        severalForRetire();
        severalForQueueAt();
        severalForStateBefore();
        refusedAgainAndAgain();
        refusedThenDone();
        Due.end();
    }

    private interface Call {
        void on(MachineFoundry x, int machine);
    }

    /** The call is refused for a machine of each state but those that are fit for it. */
    private static void refusedInStates(String what, Call call, int... fit) {
        for (int state = 0; state < 8; state++) {
            if (!isOneOf(state, fit)) {
                int machine = state;
                Due.refused(what + " in state " + state, BAD_STATE, Scenes::busy, x -> call.on(x, machine));
                int number = 15 - state;
                Due.refused(what + ", alone, in state " + state, BAD_STATE, () -> Scenes.with(number, machine), x -> call.on(x, number));
            }
        }
        for (int state : fit) {
            MachineFoundry x = Scenes.busy();
            call.on(x, state);
            Due.same(what + " is done in state " + state, x.stateOf(state) == state ? 1 : 0, 0);
        }
    }

    private static boolean isOneOf(int number, int... numbers) {
        for (int one : numbers) {
            if (one == number) {
                return true;
            }
        }
        return false;
    }

    // ---- each exception

    private static void imageNotSet() {
        Due.refused("3: setTime of an image that is not set", NO_SUCH, Scenes::busy, x -> x.setTime(7, 5));
        Due.refused("4: dropImage of an image that is not set", NO_SUCH, Scenes::busy, x -> x.dropImage(7));
        for (int image = 0; image < 8; image++) {
            int number = image;
            Due.refused("3: setTime, none is set", NO_SUCH, MachineFoundry::new, x -> x.setTime(number, 5));
            Due.refused("4: dropImage, none is set", NO_SUCH, MachineFoundry::new, x -> x.dropImage(number));
        }
    }

    private static MachineFoundry withDropped() {
        MachineFoundry x = Scenes.busy();
        x.dropImage(4);
        return x;
    }

    private static void imageDropped() {
        Due.refused("3: setTime of an image that was dropped", NO_SUCH, RefusedTest::withDropped, x -> x.setTime(4, 5));
        Due.refused("4: dropImage of an image that was dropped", NO_SUCH, RefusedTest::withDropped, x -> x.dropImage(4));
    }

    private static void ordersInStates() {
        refusedInStates("8: order", (x, machine) -> x.order(machine), MachineFoundry.IDLE);
    }

    private static void orderWithoutMatch() {
        Due.refused("8: order of IDLE without a match", BAD_STATE, Scenes::busy, x -> x.order(14));
    }

    private static MachineFoundry withIdleUnmatched() {
        MachineFoundry x = Scenes.withIdle(2);
        x.dropImage(0);
        return x;
    }

    private static void orderOfDroppedMatch() {
        Due.refused("8: order, no image is set any more", BAD_STATE, RefusedTest::withIdleUnmatched, x -> x.order(0));
    }

    private static void cancelInStates() {
        refusedInStates("9: cancel", (x, machine) -> x.cancel(machine), MachineFoundry.QUEUED, MachineFoundry.WAITING);
    }

    private static void finishInStates() {
        refusedInStates("10: finish well", (x, machine) -> x.finish(machine, true), MachineFoundry.INSTALLING);
        refusedInStates("10: finish failed", (x, machine) -> x.finish(machine, false), MachineFoundry.INSTALLING);
    }

    private static void retireInStates() {
        refusedInStates("11: retire for 5", (x, machine) -> x.retire(machine, 5), MachineFoundry.IN_USE);
        refusedInStates("11: retire for 0", (x, machine) -> x.retire(machine, 0), MachineFoundry.IN_USE);
        refusedInStates("11: retire for 48", (x, machine) -> x.retire(machine, 48), MachineFoundry.IN_USE);
    }

    private static void keepInStates() {
        refusedInStates("12: keep", (x, machine) -> x.keep(machine), MachineFoundry.DRAINING);
    }

    private static void releaseInStates() {
        refusedInStates("13: release", (x, machine) -> x.release(machine), MachineFoundry.QUARANTINED);
    }

    private static void noSuchEntry() {
        for (int wrong : new int[] {0, 1, 39, 40, -1, MIN, MAX}) {
            Due.refused("27: machineAt(" + wrong + ") of none", NO_SUCH, MachineFoundry::new, x -> x.machineAt(wrong));
        }
        for (int wrong : new int[] {40, 41, -1, MIN, MAX}) {
            Due.refused("27: machineAt(" + wrong + ") of 40", NO_SUCH, Scenes::busy, x -> x.machineAt(wrong));
        }
    }

    private static void noSuchChanges() {
        for (int wrong : new int[] {1, 2, 40, 41, -1, MIN, MAX}) {
            Due.refused("28: stateBefore(0, " + wrong + ") of none", BAD_NUMBER, MachineFoundry::new, x -> x.stateBefore(0, wrong));
        }
        for (int wrong : new int[] {41, 42, -1, MIN, MAX}) {
            Due.refused("28: stateBefore(0, " + wrong + ") of 40", BAD_NUMBER, Scenes::busy, x -> x.stateBefore(0, wrong));
        }
    }

    // ---- several of them

    private static void severalForSetImage() {
        for (int image : new int[] {-1, 8, MIN, MAX}) {
            Due.refused("2: no image, priority", NO_SUCH, Scenes::catalog, x -> x.setImage(image, 10, 0, 15, 0, 0));
            Due.refused("2: no image, memory", NO_SUCH, Scenes::catalog, x -> x.setImage(image, 0, 100, 15, 0, 0));
            Due.refused("2: no image, kinds", NO_SUCH, Scenes::catalog, x -> x.setImage(image, 0, 0, 16, 0, 0));
            Due.refused("2: no image, required", NO_SUCH, Scenes::catalog, x -> x.setImage(image, 0, 0, 15, 16, 0));
            Due.refused("2: no image, barred", NO_SUCH, Scenes::catalog, x -> x.setImage(image, 0, 0, 15, 0, 16));
            Due.refused("2: all wrong", NO_SUCH, Scenes::catalog, x -> x.setImage(image, -1, -1, -1, -1, -1));
        }
        Due.refused("2: all but the image wrong", BAD_NUMBER, Scenes::catalog, x -> x.setImage(0, 10, 100, 16, 16, 16));
    }

    private static void severalForSetTime() {
        for (int hours : new int[] {0, 25, MIN, MAX}) {
            for (int image : new int[] {-1, 8, 7, MIN, MAX}) {
                Due.refused("3: image " + image + ", hours " + hours, NO_SUCH, Scenes::busy, x -> x.setTime(image, hours));
            }
        }
    }

    private static void severalForSetBatch() {
        for (int most : new int[] {-1, 5, MIN, MAX}) {
            for (int rack : new int[] {-1, 4, MIN, MAX}) {
                Due.refused("5: rack " + rack + ", most " + most, NO_SUCH, Scenes::busy, x -> x.setBatch(rack, most));
            }
        }
    }

    private static void severalForSetRetries() {
        for (int first : new int[] {0, 25}) {
            for (int most : new int[] {0, 10}) {
                Due.refused("6: first " + first + ", most " + most, BAD_NUMBER, Scenes::busy, x -> x.setRetries(first, most));
            }
        }
    }

    private static void severalForReport() {
        for (int wrong : new int[] {-1, 16, MIN, MAX}) {
            Due.refused("7: no machine, no rack", NO_SUCH, Scenes::busy, x -> x.report(wrong, 4, 0, 0, 0));
            Due.refused("7: no machine, memory", NO_SUCH, Scenes::busy, x -> x.report(wrong, 0, 100, 0, 0));
            Due.refused("7: no machine, kind", NO_SUCH, Scenes::busy, x -> x.report(wrong, 0, 0, 4, 0));
            Due.refused("7: no machine, tags", NO_SUCH, Scenes::busy, x -> x.report(wrong, 0, 0, 0, 16));
            Due.refused("7: no rack, memory", NO_SUCH, Scenes::busy, x -> x.report(12, wrong, 100, 0, 0));
            Due.refused("7: no rack, kind", NO_SUCH, Scenes::busy, x -> x.report(8, wrong, 0, 4, 0));
            Due.refused("7: no rack, tags", NO_SUCH, Scenes::busy, x -> x.report(15, wrong, 0, 0, 16));
            Due.refused("7: all wrong", NO_SUCH, Scenes::busy, x -> x.report(wrong, wrong, -1, -1, -1));
        }
        Due.refused("7: memory, kind and tags", BAD_NUMBER, Scenes::busy, x -> x.report(15, 0, 100, 4, 16));
    }

    private static void severalForOrder() {
        // Machine 15 is UNKNOWN, so it is not IDLE and has no match.
        Due.refused("8: not IDLE, and no match", BAD_STATE, Scenes::busy, x -> x.order(15));
    }

    private static void severalForRetire() {
        for (int hours : new int[] {-1, 49, MIN, MAX}) {
            for (int machine : new int[] {-1, 16, MIN, MAX}) {
                Due.refused("11: machine " + machine + ", hours " + hours, NO_SUCH, Scenes::busy, x -> x.retire(machine, hours));
            }
            for (int state = 0; state < 8; state++) {
                int machine = state;
                Due.refused("11: state " + state + ", hours " + hours, BAD_NUMBER, Scenes::busy, x -> x.retire(machine, hours));
            }
        }
    }

    private static void severalForQueueAt() {
        for (int rack : new int[] {-1, 4, MIN, MAX}) {
            for (int place : new int[] {-1, MIN}) {
                Due.refused("23: rack " + rack + ", place " + place, NO_SUCH, Scenes::busy, x -> x.queueAt(rack, place));
            }
        }
    }

    private static void severalForStateBefore() {
        for (int machine : new int[] {-1, 16, MIN, MAX}) {
            for (int changes : new int[] {-1, 41, MIN, MAX}) {
                Due.refused("28: machine " + machine + ", changes " + changes, NO_SUCH, Scenes::busy, x -> x.stateBefore(machine, changes));
            }
            Due.refused("28: machine " + machine + ", changes of none", NO_SUCH, MachineFoundry::new, x -> x.stateBefore(machine, 1));
        }
    }

    // ---- refused calls in a row

    private static void refusedAgainAndAgain() {
        MachineFoundry x = Scenes.busy();
        for (int i = 0; i < 20; i++) {
            Due.thrown("again: order", BAD_STATE, () -> x.order(14));
            Due.thrown("again: finish", BAD_STATE, () -> x.finish(12, true));
            Due.thrown("again: advance", BAD_NUMBER, () -> x.advance(201));
            Due.thrown("again: report", BAD_NUMBER, () -> x.report(3, 0, 0, 0, 16));
        }
        Due.same("80 refused calls change nothing", Due.allOf(x), Due.allOf(Scenes.busy()));
    }

    private static void refusedThenDone() {
        MachineFoundry x = Scenes.withIdle(1);
        x.setBatch(0, 0);
        Due.thrown("ahead of order: finish", BAD_STATE, () -> x.finish(0, true));
        Due.same("order behind a refused call", x.order(0), MachineFoundry.QUEUED);
        Due.thrown("again: order", BAD_STATE, () -> x.order(0));
        Due.queue("a machine stands in its queue once", x, 0, "[0]");
        Due.same("the entries of what was done", x.entries(), 2);
    }
}
