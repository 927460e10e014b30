/**
 * Each parameter of each call: its smallest number and its largest are taken,
 * one below, one above and the far ones are refused and change nothing.
 */
public final class BoundsTest {
    private static final Class<IndexOutOfBoundsException> NO_SUCH = IndexOutOfBoundsException.class;
    private static final Class<IllegalArgumentException> BAD_NUMBER = IllegalArgumentException.class;
    private static final int[] END_MACHINES = {0, 15};
    private static final int[] END_RACKS = {0, 3};
    private static final int[] END_IMAGES = {0, 7};

    public static void main(String[] args) {
        rules();
        reports();
        machines();
        questions();
        journal();
        Due.end();
    }

    private static void rules() {
        setImageNumber();
        setImagePriority();
        setImageMemory();
        setImageKinds();
        setImageRequired();
        setImageBarred();
        setTimeImage();
        setTimeHours();
        dropImageNumber();
        setBatchRack();
        setBatchMost();
        setRetriesFirst();
        setRetriesMostFailures();
    }

    private static void reports() {
        reportMachine();
        reportRack();
        reportMemory();
        reportKind();
        reportTags();
    }

    private static void machines() {
        orderMachine();
        cancelMachine();
        finishMachine();
        retireMachine();
        retireHours();
        keepMachine();
        releaseMachine();
        advanceHours();
    }

    private static void questions() {
        stateOfMachine();
        reasonMachine();
        matchOfMachine();
        imageOfMachine();
        endOfMachine();
        failuresOfMachine();
        installingRack();
        queueAtRack();
        queueAtPlace();
    }

    private static void journal() {
        machineAtEntry();
        stateBeforeMachine();
        stateBeforeChanges();
    }

    // ---- 2 to 6: rules

    private static void setImageNumber() {
        for (int image : END_IMAGES) {
            MachineFoundry x = new MachineFoundry();
            x.report(0, 0, 0, 0, 0);
            x.setImage(image, 0, 0, 15, 0, 0);
            Due.same("2: the image " + image, x.matchOf(0), image);
        }
        Due.outside("2: the image", NO_SUCH, 0, 7, Scenes::busy, (x, n) -> x.setImage(n, 0, 0, 15, 0, 0));
    }

    private static void setImagePriority() {
        MachineFoundry x = new MachineFoundry();
        x.report(0, 0, 0, 0, 0);
        x.setImage(0, 0, 0, 15, 0, 0);
        Due.same("2: priority 0", x.matchOf(0), 0);
        x.setImage(7, 9, 0, 15, 0, 0);
        Due.same("2: priority 9 above 0", x.matchOf(0), 7);
        x.setImage(3, 8, 0, 15, 0, 0);
        Due.same("2: priority 9 above 8", x.matchOf(0), 7);
        x.setImage(7, 0, 0, 15, 0, 0);
        x.setImage(3, 1, 0, 15, 0, 0);
        Due.same("2: priority 0 below 1", x.matchOf(0), 3);
        setImageOutside("priority", 0, 0, 9);
    }

    private static void setImageMemory() {
        MachineFoundry x = new MachineFoundry();
        x.report(0, 0, 0, 0, 0);
        x.report(1, 0, 99, 0, 0);
        x.report(2, 0, 98, 0, 0);
        x.setImage(0, 0, 0, 15, 0, 0);
        Due.same("2: least memory 0, for memory 0", x.matchOf(0), 0);
        x.setImage(0, 0, 1, 15, 0, 0);
        Due.same("2: least memory 1, for memory 0", x.matchOf(0), MachineFoundry.NONE);
        x.setImage(0, 0, 99, 15, 0, 0);
        Due.same("2: least memory 99, for memory 99", x.matchOf(1), 0);
        Due.same("2: least memory 99, for memory 98", x.matchOf(2), MachineFoundry.NONE);
        setImageOutside("memory", 1, 0, 99);
    }

    private static void setImageKinds() {
        MachineFoundry x = Scenes.withImage();
        for (int kind = 0; kind < 4; kind++) {
            x.report(kind, 0, 0, kind, 0);
            Due.same("2: all kinds, 15, for kind " + kind, x.matchOf(kind), 0);
        }
        x.setImage(0, 9, 0, 0, 0, 0);
        for (int kind = 0; kind < 4; kind++) {
            Due.same("2: no kinds, 0, for kind " + kind, x.matchOf(kind), MachineFoundry.NONE);
        }
        setImageOutside("kinds", 2, 0, 15);
    }

    private static void setImageRequired() {
        MachineFoundry x = new MachineFoundry();
        x.report(0, 0, 0, 0, 0);
        x.report(1, 0, 0, 0, 15);
        x.report(2, 0, 0, 0, 7);
        x.report(3, 0, 0, 0, 14);
        x.setImage(0, 0, 0, 15, 0, 0);
        Due.same("2: required 0, for no tags", x.matchOf(0), 0);
        Due.same("2: required 0, for all tags", x.matchOf(1), 0);
        x.setImage(0, 0, 0, 15, 15, 0);
        Due.same("2: required 15, for no tags", x.matchOf(0), MachineFoundry.NONE);
        Due.same("2: required 15, for all tags", x.matchOf(1), 0);
        Due.same("2: required 15, for all but the last", x.matchOf(2), MachineFoundry.NONE);
        Due.same("2: required 15, for all but the first", x.matchOf(3), MachineFoundry.NONE);
        setImageOutside("required", 3, 0, 15);
    }

    private static void setImageBarred() {
        MachineFoundry x = new MachineFoundry();
        x.report(0, 0, 0, 0, 0);
        x.report(1, 0, 0, 0, 15);
        x.report(2, 0, 0, 0, 8);
        x.report(3, 0, 0, 0, 1);
        x.setImage(0, 0, 0, 15, 0, 0);
        Due.same("2: barred 0, for all tags", x.matchOf(1), 0);
        x.setImage(0, 0, 0, 15, 0, 15);
        Due.same("2: barred 15, for no tags", x.matchOf(0), 0);
        Due.same("2: barred 15, for all tags", x.matchOf(1), MachineFoundry.NONE);
        Due.same("2: barred 15, for the last alone", x.matchOf(2), MachineFoundry.NONE);
        Due.same("2: barred 15, for the first alone", x.matchOf(3), MachineFoundry.NONE);
        setImageOutside("barred", 4, 0, 15);
    }

    /**
     * A number of setImage is wrong, and all others are not what they are in the
     * catalog: once so that the image would match more, once so that it would
     * match less; for an image that is set, and for one that is not.
     */
    private static void setImageOutside(String what, int which, int least, int most) {
        int[] more = {9, 0, 15, 0, 0};
        int[] less = {0, 99, 8, 4, 8};
        for (int[] others : new int[][] {more, less}) {
            for (int image : new int[] {0, 5}) {
                Due.outside("2: image " + image + ", " + what, BAD_NUMBER, least, most, Scenes::catalog, (x, n) -> {
                    int[] a = others.clone();
                    a[which] = n;
                    x.setImage(image, a[0], a[1], a[2], a[3], a[4]);
                });
            }
        }
    }

    private static void setTimeImage() {
        for (int image : END_IMAGES) {
            MachineFoundry x = new MachineFoundry();
            x.setImage(image, 0, 0, 15, 0, 0);
            Due.same("3: the image " + image, x.setTime(image, 5), 2);
            Due.same("3: the image " + image + " then", x.setTime(image, 6), 5);
            Due.thrown("3: the other image", NO_SUCH, () -> x.setTime(7 - image, 5));
        }
        Due.outside("3: the image", NO_SUCH, 0, 7, Scenes::busy, (x, n) -> x.setTime(n, 5));
    }

    private static void setTimeHours() {
        MachineFoundry x = Scenes.withIdle(2);
        x.setTime(0, 1);
        x.order(0);
        Due.same("3: 1 hour", x.endOf(0), 1);
        Due.same("3: 1 hour was before", x.setTime(0, 24), 1);
        x.order(1);
        Due.same("3: 24 hours", x.endOf(1), 24);
        Due.same("3: 24 hours were before", x.setTime(0, 2), 24);
        Due.outside("3: hours", BAD_NUMBER, 1, 24, Scenes::busy, (y, n) -> y.setTime(0, n));
    }

    private static void dropImageNumber() {
        for (int image : END_IMAGES) {
            MachineFoundry x = new MachineFoundry();
            x.report(0, 0, 0, 0, 0);
            x.setImage(image, 1, 0, 15, 0, 0);
            x.setImage(3, 0, 0, 15, 0, 0);
            x.dropImage(image);
            Due.same("4: the image " + image + " is dropped, it alone", x.matchOf(0), 3);
        }
        Due.outside("4: the image", NO_SUCH, 0, 7, Scenes::busy, (x, n) -> x.dropImage(n));
    }

    private static void setBatchRack() {
        for (int rack : END_RACKS) {
            MachineFoundry x = new MachineFoundry();
            Due.same("5: the rack " + rack, x.setBatch(rack, 3), 2);
            for (int other = 0; other < 4; other++) {
                Due.same("5: the rack " + other + " then", x.setBatch(other, 1), other == rack ? 3 : 2);
            }
        }
        Due.outside("5: the rack", NO_SUCH, 0, 3, Scenes::busy, (x, n) -> x.setBatch(n, 4));
    }

    private static void setBatchMost() {
        MachineFoundry x = Scenes.withQueued(6);
        Due.same("5: a batch of 4, 0 before", x.setBatch(0, 4), 0);
        Due.same("5: a batch of 4 at work", x.installing(0), 4);
        Due.same("5: a batch of 0, 4 before", x.setBatch(0, 0), 4);
        for (int machine = 0; machine < 4; machine++) {
            x.finish(machine, true);
        }
        Due.same("5: a batch of 0 at work", x.installing(0), 0);
        Due.outside("5: most", BAD_NUMBER, 0, 4, Scenes::busy, (y, n) -> y.setBatch(0, n));
    }

    private static void setRetriesFirst() {
        for (int first : new int[] {1, 24}) {
            MachineFoundry x = Scenes.withOrdered(1);
            x.setRetries(first, 3);
            x.finish(0, false);
            Due.same("6: a first backoff of " + first, x.endOf(0), first);
        }
        Due.outside("6: first", BAD_NUMBER, 1, 24, Scenes::busy, (x, n) -> x.setRetries(n, 9));
    }

    private static void setRetriesMostFailures() {
        for (int most : new int[] {1, 9}) {
            MachineFoundry x = Scenes.withOrdered(1);
            x.setRetries(1, most);
            for (int failures = 1; failures < most; failures++) {
                Due.same("6: failure " + failures + " of " + most, x.finish(0, false), MachineFoundry.WAITING);
                x.advance(x.nextChange());
            }
            Due.same("6: failure " + most + " of " + most, x.finish(0, false), MachineFoundry.QUARANTINED);
        }
        Due.outside("6: most failures", BAD_NUMBER, 1, 9, Scenes::busy, (x, n) -> x.setRetries(24, n));
    }

    // ---- 7: report

    private static void reportMachine() {
        for (int machine : END_MACHINES) {
            MachineFoundry x = Scenes.withImage();
            Due.same("7: the machine " + machine, x.report(machine, 0, 0, 0, 0), MachineFoundry.IDLE);
            Due.same("7: the other machine", x.stateOf(15 - machine), MachineFoundry.UNKNOWN);
        }
        Due.outside("7: the machine", NO_SUCH, 0, 15, Scenes::busy, (x, n) -> x.report(n, 1, 50, 1, 1));
    }

    private static void reportRack() {
        for (int rack : END_RACKS) {
            MachineFoundry x = Scenes.withImage();
            x.report(0, rack, 0, 0, 0);
            x.order(0);
            Due.same("7: in rack " + rack, x.installing(rack), 1);
            Due.same("7: not in rack " + (3 - rack), x.installing(3 - rack), 0);
        }
        for (int machine = 0; machine < 16; machine++) {
            int number = machine;
            Due.outside("7: machine " + machine + " in rack", NO_SUCH, 0, 3, Scenes::busy, (x, n) -> x.report(number, n, 50, 1, 1));
        }
    }

    private static void reportMemory() {
        MachineFoundry x = new MachineFoundry();
        x.setImage(0, 0, 1, 15, 0, 0);
        x.setImage(1, 9, 99, 15, 0, 0);
        x.report(0, 0, 0, 0, 0);
        Due.same("7: memory 0", x.matchOf(0), MachineFoundry.NONE);
        x.report(0, 0, 99, 0, 0);
        Due.same("7: memory 99", x.matchOf(0), 1);
        for (int machine = 0; machine < 16; machine++) {
            int number = machine;
            Due.outside("7: machine " + machine + " of memory", BAD_NUMBER, 0, 99, Scenes::busy, (y, n) -> y.report(number, otherRack(number), n, 3, 15));
        }
    }

    /** A rack that the busy machine is not in, so that it shows if it is taken. */
    private static int otherRack(int number) {
        return number < 8 || number > 12 ? 3 : 1;
    }

    private static void reportKind() {
        MachineFoundry x = new MachineFoundry();
        x.setImage(0, 0, 0, 1, 0, 0);
        x.setImage(3, 0, 0, 8, 0, 0);
        x.report(0, 0, 0, 0, 0);
        Due.same("7: kind 0", x.matchOf(0), 0);
        x.report(0, 0, 0, 3, 0);
        Due.same("7: kind 3", x.matchOf(0), 3);
        for (int machine = 0; machine < 16; machine++) {
            int number = machine;
            Due.outside("7: machine " + machine + " of kind", BAD_NUMBER, 0, 3, Scenes::busy, (y, n) -> y.report(number, otherRack(number), 0, n, 15));
        }
    }

    private static void reportTags() {
        MachineFoundry x = new MachineFoundry();
        x.setImage(0, 0, 0, 15, 0, 15);
        x.setImage(1, 0, 0, 15, 15, 0);
        x.report(0, 0, 0, 0, 0);
        Due.same("7: tags 0", x.matchOf(0), 0);
        x.report(0, 0, 0, 0, 15);
        Due.same("7: tags 15", x.matchOf(0), 1);
        for (int machine = 0; machine < 16; machine++) {
            int number = machine;
            Due.outside("7: machine " + machine + " of tags", BAD_NUMBER, 0, 15, Scenes::busy, (y, n) -> y.report(number, otherRack(number), 0, 3, n));
            Due.outside("7: machine " + machine + " of kind 1, tags", BAD_NUMBER, 0, 15, Scenes::busy, (y, n) -> y.report(number, otherRack(number), 99, 1, n));
        }
    }

    // ---- 8 to 14: machines

    private static void orderMachine() {
        for (int machine : END_MACHINES) {
            MachineFoundry x = Scenes.withIdle(16);
            Due.same("8: the machine " + machine, x.order(machine), MachineFoundry.INSTALLING);
            Due.same("8: the other machine", x.stateOf(15 - machine), MachineFoundry.IDLE);
        }
        Due.outside("8: the machine", NO_SUCH, 0, 15, Scenes::busy, (x, n) -> x.order(n));
    }

    private static void cancelMachine() {
        for (int machine : END_MACHINES) {
            MachineFoundry x = Scenes.withQueued(16);
            x.cancel(machine);
            Due.same("9: the machine " + machine, x.stateOf(machine), MachineFoundry.IDLE);
            Due.same("9: the other machine", x.stateOf(15 - machine), MachineFoundry.QUEUED);
        }
        Due.outside("9: the machine", NO_SUCH, 0, 15, Scenes::busy, (x, n) -> x.cancel(n));
    }

    private static void finishMachine() {
        for (int machine : END_MACHINES) {
            MachineFoundry x = Scenes.withIdle(16);
            x.order(0);
            x.order(15);
            Due.same("10: the machine " + machine, x.finish(machine, true), MachineFoundry.IN_USE);
            Due.same("10: the other machine", x.finish(15 - machine, false), MachineFoundry.WAITING);
        }
        Due.outside("10: the machine, well", NO_SUCH, 0, 15, Scenes::busy, (x, n) -> x.finish(n, true));
        Due.outside("10: the machine, failed", NO_SUCH, 0, 15, Scenes::busy, (x, n) -> x.finish(n, false));
    }

    private static void retireMachine() {
        for (int machine : END_MACHINES) {
            MachineFoundry x = Scenes.with(machine, MachineFoundry.IN_USE);
            x.retire(machine, 1);
            Due.same("11: the machine " + machine, x.stateOf(machine), MachineFoundry.DRAINING);
        }
        Due.outside("11: the machine", NO_SUCH, 0, 15, Scenes::busy, (x, n) -> x.retire(n, 1));
        Due.outside("11: the machine, without hours", NO_SUCH, 0, 15, Scenes::busy, (x, n) -> x.retire(n, 0));
    }

    private static void retireHours() {
        for (int hours : new int[] {1, 48}) {
            MachineFoundry x = Scenes.withInUse();
            x.retire(0, hours);
            Due.same("11: for " + hours, x.endOf(0), hours);
            Due.same("11: for " + hours + ", not yet", hours == 1 ? 0 : x.advance(hours - 1), 0);
            Due.same("11: for " + hours + ", DRAINING", x.stateOf(0), MachineFoundry.DRAINING);
            Due.same("11: for " + hours + ", then", x.advance(1), 1);
            Due.same("11: for " + hours + ", IDLE", x.stateOf(0), MachineFoundry.IDLE);
            Due.same("11: for " + hours + ", wiped", x.wipes(), 1);
        }
        MachineFoundry x = Scenes.withInUse();
        x.retire(0, 0);
        Due.same("11: for 0, IDLE at once", x.stateOf(0), MachineFoundry.IDLE);
        Due.same("11: for 0, wiped at once", x.wipes(), 1);
        Due.same("11: for 0, never DRAINING", x.stateBefore(0, 1), MachineFoundry.IN_USE);
        Due.outside("11: hours", BAD_NUMBER, 0, 48, Scenes::busy, (y, n) -> y.retire(MachineFoundry.IN_USE, n));
    }

    private static void keepMachine() {
        for (int machine : END_MACHINES) {
            MachineFoundry x = Scenes.with(machine, MachineFoundry.DRAINING);
            x.keep(machine);
            Due.same("12: the machine " + machine, x.stateOf(machine), MachineFoundry.IN_USE);
        }
        Due.outside("12: the machine", NO_SUCH, 0, 15, Scenes::busy, (x, n) -> x.keep(n));
    }

    private static void releaseMachine() {
        for (int machine : END_MACHINES) {
            MachineFoundry x = Scenes.with(machine, MachineFoundry.QUARANTINED);
            x.release(machine);
            Due.same("13: the machine " + machine, x.stateOf(machine), MachineFoundry.IDLE);
            Due.same("13: its failures", x.failuresOf(machine), 0);
        }
        Due.outside("13: the machine", NO_SUCH, 0, 15, Scenes::busy, (x, n) -> x.release(n));
    }

    private static void advanceHours() {
        MachineFoundry x = new MachineFoundry();
        Due.same("14: 1 hour of nothing", x.advance(1), 0);
        Due.same("14: the hour behind 1", x.now(), 1);
        Due.same("14: 200 hours of nothing", x.advance(200), 0);
        Due.same("14: the hour behind 200 more", x.now(), 201);
        Due.outside("14: hours", BAD_NUMBER, 1, 200, Scenes::busy, (y, n) -> y.advance(n));
    }

    // ---- 16 to 23: questions

    private static void stateOfMachine() {
        for (int machine : END_MACHINES) {
            Due.same("16: the machine " + machine, Scenes.with(machine, MachineFoundry.IDLE).stateOf(machine), MachineFoundry.IDLE);
            Due.same("16: the other one", Scenes.with(machine, MachineFoundry.IDLE).stateOf(15 - machine), MachineFoundry.UNKNOWN);
        }
        Due.outside("16: the machine", NO_SUCH, 0, 15, Scenes::busy, (x, n) -> x.stateOf(n));
    }

    private static void reasonMachine() {
        for (int machine : END_MACHINES) {
            Due.same("17: the machine " + machine, Scenes.with(machine, MachineFoundry.WAITING).reason(machine), MachineFoundry.BACKOFF);
            Due.same("17: the other one", Scenes.with(machine, MachineFoundry.WAITING).reason(15 - machine), MachineFoundry.NOT_REPORTED);
        }
        Due.outside("17: the machine", NO_SUCH, 0, 15, Scenes::busy, (x, n) -> x.reason(n));
    }

    private static void matchOfMachine() {
        for (int machine : END_MACHINES) {
            Due.same("18: the machine " + machine, Scenes.with(machine, MachineFoundry.IDLE).matchOf(machine), 0);
            Due.same("18: the other one", Scenes.with(machine, MachineFoundry.IDLE).matchOf(15 - machine), MachineFoundry.NONE);
        }
        Due.outside("18: the machine", NO_SUCH, 0, 15, Scenes::busy, (x, n) -> x.matchOf(n));
    }

    private static void imageOfMachine() {
        for (int machine : END_MACHINES) {
            Due.same("19: the machine " + machine, Scenes.with(machine, MachineFoundry.IN_USE).imageOf(machine), 0);
            Due.same("19: the other one", Scenes.with(machine, MachineFoundry.IN_USE).imageOf(15 - machine), MachineFoundry.NONE);
        }
        Due.outside("19: the machine", NO_SUCH, 0, 15, Scenes::busy, (x, n) -> x.imageOf(n));
    }

    private static void endOfMachine() {
        for (int machine : END_MACHINES) {
            Due.same("20: the machine " + machine, Scenes.with(machine, MachineFoundry.DRAINING).endOf(machine), 9);
            Due.same("20: the other one", Scenes.with(machine, MachineFoundry.DRAINING).endOf(15 - machine), MachineFoundry.NONE);
        }
        Due.outside("20: the machine", NO_SUCH, 0, 15, Scenes::busy, (x, n) -> x.endOf(n));
    }

    private static void failuresOfMachine() {
        for (int machine : END_MACHINES) {
            Due.same("21: the machine " + machine, Scenes.with(machine, MachineFoundry.WAITING).failuresOf(machine), 1);
            Due.same("21: the other one", Scenes.with(machine, MachineFoundry.WAITING).failuresOf(15 - machine), 0);
        }
        Due.outside("21: the machine", NO_SUCH, 0, 15, Scenes::busy, (x, n) -> x.failuresOf(n));
    }

    private static void installingRack() {
        for (int rack : END_RACKS) {
            MachineFoundry x = Scenes.withImage();
            x.report(5, rack, 0, 0, 0);
            x.order(5);
            for (int other = 0; other < 4; other++) {
                Due.same("22: the rack " + other, x.installing(other), other == rack ? 1 : 0);
            }
        }
        Due.outside("22: the rack", NO_SUCH, 0, 3, Scenes::busy, (x, n) -> x.installing(n));
    }

    private static void queueAtRack() {
        for (int rack : END_RACKS) {
            MachineFoundry x = Scenes.withImage();
            x.setBatch(rack, 0);
            x.report(5, rack, 0, 0, 0);
            x.order(5);
            for (int other = 0; other < 4; other++) {
                Due.same("23: the rack " + other, x.queueAt(other, 0), other == rack ? 5 : MachineFoundry.NONE);
            }
        }
        Due.outside("23: the rack", NO_SUCH, 0, 3, Scenes::busy, (x, n) -> x.queueAt(n, 0));
        Due.outside("23: the rack, at a place behind all", NO_SUCH, 0, 3, Scenes::busy, (x, n) -> x.queueAt(n, 99));
    }

    private static void queueAtPlace() {
        MachineFoundry x = Scenes.withQueued(16);
        Due.same("23: place 0", x.queueAt(0, 0), 0);
        Due.same("23: place 15 of 16", x.queueAt(0, 15), 15);
        Due.same("23: place 16 of 16", x.queueAt(0, 16), MachineFoundry.NONE);
        Due.same("23: the largest place", x.queueAt(0, Integer.MAX_VALUE), MachineFoundry.NONE);
        for (int wrong : new int[] {-1, -2, Integer.MIN_VALUE}) {
            Due.refused("23: place " + wrong, NO_SUCH, Scenes::busy, y -> y.queueAt(0, wrong));
            Due.refused("23: place " + wrong + " of an empty queue", NO_SUCH, Scenes::busy, y -> y.queueAt(1, wrong));
        }
    }

    // ---- 27 and 28: the journal

    private static void machineAtEntry() {
        MachineFoundry x = Scenes.withIdle(3);
        Due.same("27: entry 0", x.machineAt(0), 2);
        Due.same("27: entry 2 of 3", x.machineAt(2), 0);
        Due.outside("27: an entry of 3", NO_SUCH, 0, 2, () -> Scenes.withIdle(3), (y, n) -> y.machineAt(n));
        Due.outside("27: an entry of 40", NO_SUCH, 0, 39, Scenes::busy, (y, n) -> y.machineAt(n));
    }

    private static void stateBeforeMachine() {
        for (int machine : END_MACHINES) {
            MachineFoundry x = Scenes.with(machine, MachineFoundry.IN_USE);
            Due.same("28: the machine " + machine, x.stateBefore(machine, 1), MachineFoundry.INSTALLING);
            Due.same("28: the other one", x.stateBefore(15 - machine, 1), MachineFoundry.UNKNOWN);
        }
        Due.outside("28: the machine", NO_SUCH, 0, 15, Scenes::busy, (x, n) -> x.stateBefore(n, 0));
        Due.outside("28: the machine, all taken back", NO_SUCH, 0, 15, Scenes::busy, (x, n) -> x.stateBefore(n, 40));
    }

    private static void stateBeforeChanges() {
        MachineFoundry x = Scenes.with(0, MachineFoundry.IN_USE);
        Due.same("28: 0 changes", x.stateBefore(0, 0), MachineFoundry.IN_USE);
        Due.same("28: 4 changes of 4", x.stateBefore(0, 4), MachineFoundry.UNKNOWN);
        Due.outside("28: changes of 4", BAD_NUMBER, 0, 4, () -> Scenes.with(0, MachineFoundry.IN_USE), (y, n) -> y.stateBefore(0, n));
        Due.outside("28: changes of 40", BAD_NUMBER, 0, 40, Scenes::busy, (y, n) -> y.stateBefore(0, n));
        Due.outside("28: changes of none", BAD_NUMBER, 0, 0, MachineFoundry::new, (y, n) -> y.stateBefore(0, n));
    }
}
