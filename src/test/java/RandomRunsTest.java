import java.util.Random;

/** Long mixed runs of calls, with each answer held against the model's; the seeds are fixed. */
public final class RandomRunsTest {
    private static final int RUNS = 6000;
    private static final int MOST_CALLS = 512;
    // How many of an object's calls are left for a look at all of it.
    private static final int LAST_LOOK = 190;
    private static final int[] FAR = {-1, Integer.MIN_VALUE, Integer.MAX_VALUE, Integer.MIN_VALUE + 1, 1 << 16, -40};

    private final Random random;
    private final int machines;
    private final boolean isWild;
    private final MachineFoundry program = new MachineFoundry();
    private final Model model = new Model();
    private final StringBuilder told = new StringBuilder();
    private int calls = 0;
    private boolean isWrong = false;

    private RandomRunsTest(long seed) {
        random = new Random(seed);
        machines = seed % 3 == 0 ? 16 : seed % 3 == 1 ? 5 : 2;
        isWild = seed % 5 == 0;
    }

    public static void main(String[] args) {
        for (int seed = 0; seed < RUNS; seed++) {
            new RandomRunsTest(seed).run(seed);
        }
        Due.end();
    }

    private void run(int seed) {
        while (calls < MOST_CALLS - LAST_LOOK && !isWrong) {
            if (random.nextInt(3) > 0) {
                call(random.nextInt(14));
            } else {
                call(14 + random.nextInt(14));
            }
        }
        lookAtAll();
        Due.same("run " + seed + (isWrong ? ":" + told : ""), isWrong ? 1 : 0, 0);
    }

    private interface Call {
        long answer();
    }

    private static String outcome(Call call) {
        try {
            return "" + call.answer();
        } catch (RuntimeException e) {
            return "throws " + e.getClass().getName();
        }
    }

    private void both(String name, int[] a, Call got, Call want) {
        if (isWrong) {
            return;
        }
        calls++;
        String due = outcome(want);
        String answered = outcome(got);
        told.append("\n  ").append(name).append(java.util.Arrays.toString(a)).append(" -> ").append(answered);
        if (!answered.equals(due)) {
            told.append(", due is ").append(due);
            isWrong = true;
        }
    }

    private static long none(Runnable call) {
        call.run();
        return 0;
    }

    /** Most often within low to high, now and then at or beyond an edge, or far out. */
    private int number(int low, int high) {
        int dice = random.nextInt(isWild ? 8 : 60);
        if (dice == 0) {
            return random.nextBoolean() ? low - 1 : high + 1;
        }
        if (dice == 1) {
            return FAR[random.nextInt(FAR.length)];
        }
        if (dice == 2) {
            return random.nextBoolean() ? low : high;
        }
        return low + random.nextInt(high - low + 1);
    }

    private int machine() {
        int number = number(0, 15);
        return number >= 0 && number < 16 ? number % machines : number;
    }

    /** Often one that is in the state, if there is one: else few machines would come to be in use and to leave. */
    private int machineIn(int state) {
        int first = random.nextInt(16);
        if (random.nextInt(3) > 0) {
            for (int i = 0; i < 16; i++) {
                int machine = (first + i) % 16;
                if (model.stateOf(machine) == state) {
                    return machine;
                }
            }
        }
        return machine();
    }

    private int rack() {
        int number = number(0, 3);
        return number == 3 && machines < 16 ? 0 : number;
    }

    /** A set with few members, so that images match now and then. */
    private int tags() {
        int number = number(0, 15);
        return number >= 0 && number < 16 && random.nextInt(4) > 0 ? number & random.nextInt(16) & random.nextInt(16) : number;
    }

    private int hours() {
        return random.nextInt(12) == 0 ? number(1, 200) : random.nextInt(4) == 0 ? number(1, 24) : number(1, 3);
    }

    private void call(int which) {
        int[] a = {machine(), rack(), number(0, 99), number(0, 3), tags(), number(0, 7)};
        int hours = hours();
        MachineFoundry x = program;
        Model y = model;
        switch (which) {
            case 0: setImage(a[5]); break;
            case 1: both("setTime ", new int[] {a[5], hours}, () -> x.setTime(a[5], hours), () -> y.setTime(a[5], hours)); break;
            case 2: dropImageSeldom(a[5]); break;
            case 3: setBatch(a[1]); break;
            case 4: setRetries(); break;
            case 5: case 6: both("report ", a, () -> x.report(a[0], a[1], a[2], a[3], a[4]), () -> y.report(a[0], a[1], a[2], a[3], a[4])); break;
            case 7: case 8: order(); break;
            case 9: finish(); break;
            case 10: retire(); break;
            case 11: both("keep ", a, () -> none(() -> x.keep(a[0])), () -> none(() -> y.keep(a[0]))); break;
            case 12: leave(a[0]); break;
            case 13: both("advance ", new int[] {hours}, () -> x.advance(hours), () -> y.advance(hours)); break;
            default: question(which - 14, a[0], a[1]);
        }
    }

    private void setImage(int image) {
        int[] a = {image, number(0, 9), random.nextInt(2) * number(0, 99), number(0, 15) | random.nextInt(2) * 5, tags(), tags()};
        both("setImage ", a, () -> none(() -> program.setImage(a[0], a[1], a[2], a[3], a[4], a[5])),
            () -> none(() -> model.setImage(a[0], a[1], a[2], a[3], a[4], a[5])));
    }

    private void dropImageSeldom(int image) {
        if (random.nextInt(3) == 0) {
            both("dropImage ", new int[] {image}, () -> none(() -> program.dropImage(image)), () -> none(() -> model.dropImage(image)));
        }
    }

    private void setBatch(int rack) {
        int most = number(0, 4);
        both("setBatch ", new int[] {rack, most}, () -> program.setBatch(rack, most), () -> model.setBatch(rack, most));
    }

    private void setRetries() {
        int first = random.nextBoolean() ? number(1, 3) : number(1, 24);
        int most = number(1, 9);
        both("setRetries ", new int[] {first, most}, () -> none(() -> program.setRetries(first, most)), () -> none(() -> model.setRetries(first, most)));
    }

    private void order() {
        int machine = machineIn(MachineFoundry.IDLE);
        both("order ", new int[] {machine}, () -> program.order(machine), () -> model.order(machine));
    }

    private void finish() {
        int machine = machineIn(MachineFoundry.INSTALLING);
        boolean isGood = random.nextBoolean();
        both("finish " + isGood + " ", new int[] {machine}, () -> program.finish(machine, isGood), () -> model.finish(machine, isGood));
    }

    private void retire() {
        int machine = machineIn(MachineFoundry.IN_USE);
        int hours = random.nextInt(3) > 0 ? number(0, 3) : number(0, 48);
        both("retire ", new int[] {machine, hours}, () -> none(() -> program.retire(machine, hours)), () -> none(() -> model.retire(machine, hours)));
    }

    private void leave(int machine) {
        if (random.nextBoolean()) {
            both("cancel ", new int[] {machine}, () -> none(() -> program.cancel(machine)), () -> none(() -> model.cancel(machine)));
        } else {
            both("release ", new int[] {machine}, () -> none(() -> program.release(machine)), () -> none(() -> model.release(machine)));
        }
    }

    private void question(int which, int machine, int rack) {
        MachineFoundry x = program;
        Model y = model;
        int[] m = {machine};
        int place = number(0, 5);
        switch (which) {
            case 0: both("now ", m, x::now, y::now); break;
            case 1: both("stateOf ", m, () -> x.stateOf(machine), () -> y.stateOf(machine)); break;
            case 2: both("reason ", m, () -> x.reason(machine), () -> y.reason(machine)); break;
            case 3: both("matchOf ", m, () -> x.matchOf(machine), () -> y.matchOf(machine)); break;
            case 4: both("imageOf ", m, () -> x.imageOf(machine), () -> y.imageOf(machine)); break;
            case 5: both("endOf ", m, () -> x.endOf(machine), () -> y.endOf(machine)); break;
            case 6: both("failuresOf ", m, () -> x.failuresOf(machine), () -> y.failuresOf(machine)); break;
            case 7: both("installing ", new int[] {rack}, () -> x.installing(rack), () -> y.installing(rack)); break;
            case 8: both("queueAt ", new int[] {rack, place}, () -> x.queueAt(rack, place), () -> y.queueAt(rack, place)); break;
            case 9: both("nextChange ", m, x::nextChange, y::nextChange); break;
            case 10: both("wipes ", m, x::wipes, y::wipes); break;
            case 11: both("entries ", m, x::entries, y::entries); break;
            case 12: machineAt(number(0, Math.max(0, y.entries() - 1))); break;
            default: stateBefore(machine, number(0, y.entries()));
        }
    }

    private void machineAt(int entry) {
        both("machineAt ", new int[] {entry}, () -> program.machineAt(entry), () -> model.machineAt(entry));
    }

    private void stateBefore(int machine, int changes) {
        both("stateBefore ", new int[] {machine, changes}, () -> program.stateBefore(machine, changes), () -> model.stateBefore(machine, changes));
    }

    private void lookAtAll() {
        for (int which : new int[] {0, 9, 10, 11}) {
            question(which, 0, 0);
        }
        for (int machine = 0; machine < Math.max(machines, 6); machine++) {
            for (int which = 1; which <= 6; which++) {
                question(which, machine, 0);
            }
            stateBefore(machine, model.entries());
        }
        for (int rack = 0; rack < 4; rack++) {
            question(7, 0, rack);
            for (int place = 0; model.queueAt(rack, place) >= 0; place++) {
                int at = place;
                int of = rack;
                both("queueAt ", new int[] {of, at}, () -> program.queueAt(of, at), () -> model.queueAt(of, at));
            }
        }
        for (int entry = 0; entry <= model.entries(); entry++) {
            machineAt(entry);
        }
        Due.same("an object's calls are within its 512", calls <= MOST_CALLS ? 1 : 0, 1);
    }
}
