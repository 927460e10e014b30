import java.util.function.Consumer;
import java.util.function.ObjIntConsumer;
import java.util.function.Supplier;

/** What the tests of the project share: comparing answers with what is due. */
final class Due {
    private static int looked = 0;
    private static int wrong = 0;

    private Due() {
    }

    static void same(String what, long got, long want) {
        looked++;
        if (got != want) {
            say(what + " answered " + got + ", due is " + want);
        }
    }

    static void same(String what, String got, String want) {
        looked++;
        if (!got.equals(want)) {
            say(what + ":\n  got " + got + "\n  due " + want);
        }
    }

    /** The very class counts: an exception that the machine throws is of a class below it. */
    static void thrown(String what, Class<? extends RuntimeException> want, Runnable call) {
        looked++;
        try {
            call.run();
            say(what + " throws nothing, due is " + want.getSimpleName());
        } catch (RuntimeException e) {
            if (e.getClass() != want) {
                say(what + " throws " + e + ", due is " + want.getSimpleName());
            }
        }
    }

    /** A look at an object that shows what a call has changed; it may change the object itself. */
    private interface Look {
        String of(MachineFoundry x);
    }

    /** A call that throws, and an object that is behind it as one that never saw the call. */
    static void refused(String what, Class<? extends RuntimeException> want,
            Supplier<MachineFoundry> scene, Consumer<MachineFoundry> call) {
        // One look at all would take more than an object's 512 calls.
        for (Look look : new Look[] {Due::allOf, Due::placesOf}) {
            MachineFoundry called = scene.get();
            thrown(what, want, () -> call.accept(called));
            same(what + " changes nothing", look.of(called), look.of(scene.get()));
        }
    }

    /** A call with a number that is below the least, above the most, or far out. */
    static void outside(String what, Class<? extends RuntimeException> want, int least, int most,
            Supplier<MachineFoundry> scene, ObjIntConsumer<MachineFoundry> call) {
        for (int wrong : new int[] {least - 1, most + 1, Integer.MIN_VALUE, Integer.MAX_VALUE}) {
            refused(what + " " + wrong, want, scene, x -> call.accept(x, wrong));
        }
    }

    static void states(String what, MachineFoundry x, int... want) {
        for (int machine = 0; machine < want.length; machine++) {
            same(what + ": stateOf(" + machine + ")", x.stateOf(machine), want[machine]);
        }
    }

    static void queue(String what, MachineFoundry x, int rack, String want) {
        same(what + ": the queue of rack " + rack, queueOf(x, rack), want);
    }

    /** The machines of the latest entries, the oldest of them first. */
    static void latest(String what, MachineFoundry x, int... want) {
        StringBuilder got = new StringBuilder();
        StringBuilder due = new StringBuilder();
        for (int i = 0; i < want.length; i++) {
            int entry = want.length - 1 - i;
            got.append(' ').append(entry < x.entries() ? "" + x.machineAt(entry) : "none");
            due.append(' ').append(want[i]);
        }
        same(what + ": the latest entries", got.toString(), due.toString());
    }

    /** Every answer, and then what only a change shows; it takes some 300 of an object's 512 calls. */
    static String allOf(MachineFoundry x) {
        StringBuilder all = new StringBuilder(questionsOf(x));
        for (int rack = 0; rack < 4; rack++) {
            all.append(" batch ").append(x.setBatch(rack, 4));
        }
        for (int image = 0; image < 8; image++) {
            all.append(" time ").append(timeOf(x, image));
        }
        x.setImage(7, 9, 0, 15, 0, 0);
        for (int machine = 0; machine < 16; machine++) {
            if (x.stateOf(machine) == MachineFoundry.IDLE) {
                x.order(machine);
            }
            if (x.stateOf(machine) == MachineFoundry.INSTALLING) {
                all.append(" failed ").append(x.finish(machine, false)).append(' ').append(x.endOf(machine));
            }
        }
        return all.toString();
    }

    /** The rack of each machine that has reported, whatever its state: where it stands when it is ordered. */
    static String placesOf(MachineFoundry x) {
        for (int rack = 0; rack < 4; rack++) {
            x.setBatch(rack, 0);
        }
        x.setImage(7, 9, 0, 15, 0, 0);
        StringBuilder all = new StringBuilder();
        for (int machine = 0; machine < 16; machine++) {
            bringToIdle(x, machine);
            if (x.stateOf(machine) == MachineFoundry.IDLE) {
                x.order(machine);
            }
        }
        for (int rack = 0; rack < 4; rack++) {
            all.append(queueOf(x, rack));
        }
        return all.toString();
    }

    private static void bringToIdle(MachineFoundry x, int machine) {
        switch (x.stateOf(machine)) {
            case MachineFoundry.QUEUED: case MachineFoundry.WAITING: x.cancel(machine); break;
            case MachineFoundry.INSTALLING: x.finish(machine, true); x.retire(machine, 0); break;
            case MachineFoundry.IN_USE: x.retire(machine, 0); break;
            case MachineFoundry.DRAINING: x.keep(machine); x.retire(machine, 0); break;
            case MachineFoundry.QUARANTINED: x.release(machine); break;
            default:
        }
    }

    static String questionsOf(MachineFoundry x) {
        StringBuilder all = new StringBuilder();
        all.append(x.now()).append(' ').append(x.nextChange()).append(' ').append(x.wipes());
        int entries = x.entries();
        all.append(' ').append(entries);
        for (int machine = 0; machine < 16; machine++) {
            all.append(" m").append(machine).append(':').append(x.stateOf(machine));
            all.append(',').append(x.reason(machine)).append(',').append(x.matchOf(machine));
            all.append(',').append(x.imageOf(machine)).append(',').append(x.endOf(machine));
            all.append(',').append(x.failuresOf(machine)).append(',').append(x.stateBefore(machine, entries));
        }
        for (int rack = 0; rack < 4; rack++) {
            all.append(" r").append(rack).append(':').append(x.installing(rack)).append(queueOf(x, rack));
        }
        for (int entry = 0; entry < entries; entry++) {
            all.append(' ').append(x.machineAt(entry));
        }
        return all.toString();
    }

    static String queueOf(MachineFoundry x, int rack) {
        StringBuilder queue = new StringBuilder("[");
        for (int place = 0; x.queueAt(rack, place) != MachineFoundry.NONE; place++) {
            queue.append(place == 0 ? "" : " ").append(x.queueAt(rack, place));
        }
        return queue.append("]").toString();
    }

    private static String timeOf(MachineFoundry x, int image) {
        try {
            return "" + x.setTime(image, 3);
        } catch (IndexOutOfBoundsException e) {
            return "unset";
        }
    }

    /** Ends the program, with exit code 1 if an answer was wrong. */
    static void end() {
        System.out.println(looked + " looked at, " + wrong + " wrong");
        if (wrong != 0 || looked == 0) {
            System.exit(1);
        }
    }

    private static void say(String fault) {
        wrong++;
        if (wrong <= 20) {
            System.out.println(fault);
        }
    }
}
