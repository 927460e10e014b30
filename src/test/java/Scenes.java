/** Objects that the tests begin with; each is new with every call. */
final class Scenes {
    private Scenes() {
    }

    /** Image 0 matches whatever has reported. */
    static MachineFoundry withImage() {
        MachineFoundry x = new MachineFoundry();
        x.setImage(0, 0, 0, 15, 0, 0);
        return x;
    }

    /** Machines 0 to count - 1 are IDLE in rack 0. */
    static MachineFoundry withIdle(int count) {
        MachineFoundry x = withImage();
        for (int machine = 0; machine < count; machine++) {
            x.report(machine, 0, 10, 0, 0);
        }
        return x;
    }

    /** Machines 0 to count - 1 are ordered in rack 0: the first two are INSTALLING. */
    static MachineFoundry withOrdered(int count) {
        MachineFoundry x = withIdle(count);
        for (int machine = 0; machine < count; machine++) {
            x.order(machine);
        }
        return x;
    }

    /** Machines 0 to count - 1 are QUEUED in rack 0, whose batch is 0. */
    static MachineFoundry withQueued(int count) {
        MachineFoundry x = withIdle(count);
        x.setBatch(0, 0);
        for (int machine = 0; machine < count; machine++) {
            x.order(machine);
        }
        return x;
    }

    static MachineFoundry withInUse() {
        return with(0, MachineFoundry.IN_USE);
    }

    /** One machine in a state, in rack 0; all others are UNKNOWN. */
    static MachineFoundry with(int machine, int state) {
        MachineFoundry x = withImage();
        if (state == MachineFoundry.UNKNOWN) {
            return x;
        }
        x.report(machine, 0, 10, 0, 0);
        if (state == MachineFoundry.IDLE) {
            return x;
        }
        x.setBatch(0, state == MachineFoundry.QUEUED ? 0 : 2);
        x.setRetries(1, state == MachineFoundry.QUARANTINED ? 1 : 3);
        x.order(machine);
        if (state == MachineFoundry.WAITING || state == MachineFoundry.QUARANTINED) {
            x.finish(machine, false);
        }
        if (state == MachineFoundry.IN_USE || state == MachineFoundry.DRAINING) {
            x.finish(machine, true);
        }
        if (state == MachineFoundry.DRAINING) {
            x.retire(machine, 9);
        }
        return x;
    }

    /** The machines 0 to 7, each in the state of its number. */
    static MachineFoundry inEveryState() {
        MachineFoundry x = withImage();
        x.setBatch(2, 0);
        for (int machine = 1; machine < 8; machine++) {
            x.report(machine, machine == MachineFoundry.QUEUED ? 2 : 1, 10, 0, 0);
        }
        x.setBatch(1, 4);
        x.order(MachineFoundry.QUEUED);
        x.order(MachineFoundry.IN_USE);
        x.finish(MachineFoundry.IN_USE, true);
        x.order(MachineFoundry.DRAINING);
        x.finish(MachineFoundry.DRAINING, true);
        x.retire(MachineFoundry.DRAINING, 9);
        x.setRetries(7, 1);
        x.order(MachineFoundry.QUARANTINED);
        x.finish(MachineFoundry.QUARANTINED, false);
        x.setRetries(7, 3);
        x.order(MachineFoundry.WAITING);
        x.finish(MachineFoundry.WAITING, false);
        x.order(MachineFoundry.INSTALLING);
        return x;
    }

    /**
     * As in every state, and all at work: the images 0 to 6 are set, rack 0 has
     * a full batch and a queue, machine 12 is IDLE in rack 3, 13 is behind 2 in
     * rack 2, 14 is IDLE without a match, 15 is UNKNOWN; the journal is full.
     */
    static MachineFoundry busy() {
        MachineFoundry x = inEveryState();
        for (int image = 1; image < 7; image++) {
            x.setImage(image, image, 10 + image, 1 << image % 4, 0, 0);
            x.setTime(image, 20 + image % 4);
        }
        for (int machine = 8; machine < 15; machine++) {
            x.report(machine, machine < 12 ? 0 : machine == 12 ? 3 : 2, 99, 0, 0);
        }
        for (int machine = 8; machine < 12; machine++) {
            x.order(machine);
        }
        x.setBatch(3, 0);
        for (int i = 0; i < 6; i++) {
            x.order(12);
            x.cancel(12);
        }
        x.order(13);
        x.setImage(0, 0, 0, 1, 0, 8);
        x.report(14, 1, 0, 1, 8);
        return x;
    }

    /**
     * Machines whose matches tell every field of image 0: of more priority is
     * image 1 for a few of them alone, of less is image 2 for all of them.
     */
    static MachineFoundry catalog() {
        MachineFoundry x = new MachineFoundry();
        x.setImage(0, 5, 50, 1 + 2, 1, 2);
        x.setImage(1, 6, 90, 15, 0, 0);
        x.setImage(2, 4, 0, 15, 0, 0);
        x.setTime(0, 11);
        for (int kind = 0; kind < 4; kind++) {
            x.report(kind, 0, 50, kind, 1);
        }
        x.report(4, 1, 49, 0, 1);
        x.report(5, 1, 51, 0, 1);
        x.report(6, 1, 90, 0, 1);
        for (int tag = 0; tag < 4; tag++) {
            x.report(7 + tag, 2, 50, 1, 1 << tag);
            x.report(11 + tag, 3, 50, 1, 1 | 1 << tag);
        }
        x.order(0);
        x.order(4);
        return x;
    }
}
