import java.util.function.Consumer;

/** What the document says of all calls at once, each call of the face tried for it. */
public final class ThroughoutTest {
    /** Calls that change something in every state's scene and in the busy one; none of them throws there. */
    private enum Change {
        SET_IMAGE(x -> x.setImage(7, 9, 0, 15, 0, 0)),
        SET_IMAGE_IN_PLACE(x -> x.setImage(0, 9, 99, 0, 15, 15)),
        SET_TIME(x -> x.setTime(0, 24)),
        DROP_IMAGE(x -> x.dropImage(0)),
        SET_BATCH(x -> x.setBatch(2, 4)),
        SET_BATCH_OF_NONE(x -> x.setBatch(1, 0)),
        SET_RETRIES(x -> x.setRetries(24, 1)),
        REPORT_OF_UNKNOWN(x -> x.report(0, 3, 99, 3, 15)),
        REPORT_OF_IDLE(x -> x.report(1, 3, 99, 3, 15)),
        REPORT_OF_QUEUED(x -> x.report(2, 3, 10, 0, 0)),
        REPORT_OF_INSTALLING(x -> x.report(3, 3, 99, 3, 15)),
        REPORT_OF_WAITING(x -> x.report(4, 3, 99, 3, 15)),
        REPORT_OF_DRAINING(x -> x.report(6, 3, 99, 3, 15)),
        REPORT_OF_QUARANTINED(x -> x.report(7, 3, 99, 3, 15)),
        ORDER(x -> x.order(1)),
        CANCEL_OF_QUEUED(x -> x.cancel(2)),
        CANCEL_OF_WAITING(x -> x.cancel(4)),
        FINISH_WELL(x -> x.finish(3, true)),
        FINISH_FAILED(x -> x.finish(3, false)),
        KEEP(x -> x.keep(6)),
        RELEASE(x -> x.release(7)),
        RETIRE(x -> x.retire(5, 48)),
        RETIRE_AT_ONCE(x -> x.retire(5, 0));

        final Consumer<MachineFoundry> call;

        Change(Consumer<MachineFoundry> call) {
            this.call = call;
        }

        boolean isOfTheOneInUse() {
            return this == RETIRE || this == RETIRE_AT_ONCE;
        }
    }

    private static final Change[] CHANGES = Change.values();

    public static void main(String[] args) {
        hoursPassByAdvanceAlone();
        inUseIsNeverTouched();
        inUseIsNeverTouchedByAnyOrderOfCalls();
        questionsChangeNothing();
        everyChangeOfAStateIsAnEntry();
        hoursAreEntriesOneByOne();
        byTheNumbersOfTheMachines();
        roomIsFilledByEveryCallThatMakesIt();
        objectsAreOnTheirOwn();
        Due.end();
    }

    private static void hoursPassByAdvanceAlone() {
        for (Change change : CHANGES) {
            MachineFoundry x = Scenes.busy();
            x.advance(1);
            change.call.accept(x);
            Due.same("the hour behind " + change, x.now(), 1);
        }
        MachineFoundry asked = Scenes.busy();
        Due.questionsOf(asked);
        Due.same("the hour behind questions", asked.now(), 0);
    }

    // ---- "A machine in use is never touched until it is retired."

    private static void inUseIsNeverTouched() {
        for (Change change : CHANGES) {
            if (!change.isOfTheOneInUse()) {
                MachineFoundry x = Scenes.inEveryState();
                change.call.accept(x);
                dueInUse("in use behind " + change, x);
                x.advance(200);
                dueInUse("in use 200 hours behind " + change, x);
            }
        }
    }

    private static void inUseIsNeverTouchedByAnyOrderOfCalls() {
        MachineFoundry x = Scenes.inEveryState();
        for (Change change : new Change[] {Change.SET_BATCH, Change.SET_IMAGE, Change.REPORT_OF_UNKNOWN, Change.RELEASE,
                Change.KEEP, Change.FINISH_FAILED, Change.SET_RETRIES, Change.DROP_IMAGE, Change.SET_BATCH_OF_NONE}) {
            change.call.accept(x);
        }
        x.report(MachineFoundry.IN_USE, 3, 0, 3, 15);
        x.dropImage(7);
        x.advance(200);
        dueInUse("in use behind all of them", x);
        Due.same("in use: nothing matches it any more", x.matchOf(MachineFoundry.IN_USE), MachineFoundry.NONE);
    }

    private static void dueInUse(String what, MachineFoundry x) {
        Due.same(what + ": stateOf", x.stateOf(MachineFoundry.IN_USE), MachineFoundry.IN_USE);
        Due.same(what + ": reason", x.reason(MachineFoundry.IN_USE), MachineFoundry.NO_REASON);
        Due.same(what + ": imageOf", x.imageOf(MachineFoundry.IN_USE), 0);
        Due.same(what + ": endOf", x.endOf(MachineFoundry.IN_USE), MachineFoundry.NONE);
        Due.same(what + ": failuresOf", x.failuresOf(MachineFoundry.IN_USE), 0);
    }

    // ---- what questions leave

    private static void questionsChangeNothing() {
        MachineFoundry twice = Scenes.busy();
        String first = Due.questionsOf(twice);
        Due.same("asked again", Due.questionsOf(twice), first);
        // A third look would take more than an object's 512 calls.
        MachineFoundry asked = Scenes.busy();
        Due.questionsOf(asked);
        Due.same("the places of all that were asked for", Due.placesOf(asked), Due.placesOf(Scenes.busy()));
        for (int machine = 0; machine < 16; machine++) {
            MachineFoundry x = Scenes.busy();
            askOnce(x, machine);
            Due.same("behind one call of each question", Due.questionsOf(x), first);
        }
    }

    private static void askOnce(MachineFoundry x, int machine) {
        int rack = machine % 4;
        x.now();
        x.stateOf(machine);
        x.reason(machine);
        x.matchOf(machine);
        x.imageOf(machine);
        x.endOf(machine);
        x.failuresOf(machine);
        x.installing(rack);
        x.queueAt(rack, machine / 4);
        x.nextChange();
        x.wipes();
        x.entries();
        x.machineAt(machine);
        x.stateBefore(machine, machine);
    }

    // ---- "The journal has an entry for each change of a state"

    private static void everyChangeOfAStateIsAnEntry() {
        for (Change change : CHANGES) {
            MachineFoundry x = Scenes.inEveryState();
            int[] before = statesOf(x);
            int entries = x.entries();
            change.call.accept(x);
            dueEntries("" + change, x, before, x.entries() - entries);
        }
    }

    private static void hoursAreEntriesOneByOne() {
        MachineFoundry x = Scenes.inEveryState();
        for (int hour = 1; hour <= 12; hour++) {
            int[] before = statesOf(x);
            int added = x.advance(1);
            dueEntries("hour " + hour, x, before, added);
        }
    }

    private static int[] statesOf(MachineFoundry x) {
        int[] states = new int[8];
        for (int machine = 0; machine < states.length; machine++) {
            states[machine] = x.stateOf(machine);
        }
        return states;
    }

    /** Each entry takes back the state of its own machine alone, and all of them together lead to what was before. */
    private static void dueEntries(String what, MachineFoundry x, int[] before, int added) {
        for (int machine = 0; machine < before.length; machine++) {
            Due.same(what + ": the state of " + machine + " ahead of it", x.stateBefore(machine, added), before[machine]);
            for (int entry = 0; entry < added; entry++) {
                boolean isOther = x.stateBefore(machine, entry) != x.stateBefore(machine, entry + 1);
                Due.same(what + ": entry " + entry + " is of " + machine, isOther ? 1 : 0, x.machineAt(entry) == machine ? 1 : 0);
            }
        }
    }

    // ---- "each time by the numbers of the machines"

    /** All was ordered, retired and failed from the last machine to the first, and in racks from the last one to the first. */
    private static void byTheNumbersOfTheMachines() {
        MachineFoundry x = Scenes.withImage();
        x.setRetries(5, 9);
        x.setTime(0, 5);
        for (int machine = 11; machine >= 0; machine--) {
            x.report(machine, 3 - machine % 4, 10, 0, 0);
            x.setBatch(machine % 4, 4);
            x.order(machine);
            if (machine < 4) {
                x.finish(machine, false);
            } else if (machine < 8) {
                x.finish(machine, true);
                x.retire(machine, 5);
            }
        }
        Due.same("by the numbers: nothing before", x.advance(4), 0);
        Due.same("by the numbers", x.advance(1), 16);
        Due.latest("by the numbers", x, 8, 9, 10, 11, 4, 5, 6, 7, 0, 1, 2, 3, 3, 2, 1, 0);
    }

    // ---- "At the end of each call that does not throw .. installations begin"

    private static void roomIsFilledByEveryCallThatMakesIt() {
        MachineFoundry well = Scenes.withOrdered(3);
        well.finish(1, true);
        MachineFoundry failed = Scenes.withOrdered(3);
        failed.finish(1, false);
        MachineFoundry aside = Scenes.withOrdered(3);
        aside.setRetries(1, 1);
        aside.finish(1, false);
        MachineFoundry reported = Scenes.withOrdered(3);
        reported.report(1, 0, 10, 0, 0);
        MachineFoundry moved = Scenes.withOrdered(3);
        moved.report(1, 3, 10, 0, 0);
        MachineFoundry more = Scenes.withOrdered(3);
        more.setBatch(0, 3);
        MachineFoundry passed = Scenes.withOrdered(3);
        passed.advance(2);
        for (MachineFoundry x : new MachineFoundry[] {well, failed, aside, reported, moved, more, passed}) {
            Due.same("room is filled by the call that makes it", x.stateOf(2), MachineFoundry.INSTALLING);
            Due.same("the latest entry", x.machineAt(0), 2);
        }
    }

    private static void objectsAreOnTheirOwn() {
        String due = Due.allOf(Scenes.inEveryState());
        MachineFoundry one = Scenes.inEveryState();
        MachineFoundry other = new MachineFoundry();
        other.setImage(0, 9, 99, 0, 15, 15);
        other.setTime(0, 24);
        other.setBatch(1, 0);
        other.setRetries(24, 9);
        other.report(3, 2, 99, 3, 15);
        other.advance(100);
        Due.same("an object beside another one", Due.allOf(one), due);
        Due.same("the other one", other.now(), 100);
        Due.same("the other one: entries", other.entries(), 1);
    }
}
