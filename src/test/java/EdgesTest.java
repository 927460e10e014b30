/** What is empty or full, the first and the last of it, and one more: the sentences of "Terms" and of the promises. */
public final class EdgesTest {
    public static void main(String[] args) {
        images();
        queues();
        batches();
        failing();
        reports();
        hours();
        leaving();
        journal();
        nextChanges();
        lastCalls();
        Due.end();
    }

    private static void images() {
        noImages();
        reasonsWithoutAMatch();
        allImages();
        allImagesOfOnePriority();
        requiredAndBarred();
        imageInPlaceOfItself();
        droppedWhileQueued();
        droppedWhileInstalling();
        droppedWhileDraining();
        timeOfAnImageThatIsBack();
    }

    private static void queues() {
        emptyQueue();
        emptyQueueWithRoom();
        fullQueue();
        queueOfAnotherRack();
        firstOfTheQueueHasNoMatch();
        noneOfTheQueueHasAMatch();
        racksByTheirNumbers();
        lastOfTheQueueIsCancelled();
        moveToARackWithRoom();
        moveToAFullRack();
        reportOfTheFirstFromItsOwnRack();
    }

    private static void batches() {
        batchOfEachSize();
        batchOfZero();
        batchOfZeroForHours();
        batchRaisedByOne();
        batchLowered();
        batchOfOneRackAlone();
        failureMakesRoom();
    }

    private static void failing() {
        oneFailureBelowTheMost();
        moreFailuresThanTheMost();
        mostFailuresOfOne();
        failuresOutliveACancel();
        noFailuresBehindSuccess();
        noFailuresBehindRelease();
        waitingStaysSo();
        longestBackoff();
        queuedBehindOthersAgain();
        reportWhileInstalling();
        reportWhileInstallingFromAnotherRack();
    }

    private static void reports() {
        for (int state : new int[] {MachineFoundry.IDLE, MachineFoundry.WAITING, MachineFoundry.IN_USE,
                MachineFoundry.DRAINING, MachineFoundry.QUARANTINED}) {
            reportChangesWhatIsKnownAlone(state);
            reportFromAnotherRackCounts(state);
        }
        reportWhileWaitingCountsForTheNextTry();
        firstReport();
    }

    private static void hours() {
        shortestTime();
        longestTime();
        timeSetWhileInstalling();
        hoursOneByOne();
        severalEndsInOneHour();
        finishInTheLastHour();
    }

    private static void leaving() {
        retireWithoutHours();
        retireForOneHour();
        keptInTheLastHour();
        retiredAgain();
        wipesOfAll();
    }

    private static void journal() {
        emptyJournal();
        journalOfRulesAlone();
        journalOfOne();
        journalOf39To42();
        journalFilledByOneCall();
        stateBeforeAFullJournal();
        addedNotKept();
    }

    private static void nextChanges() {
        neverAChange();
        changeInOneHour();
        earliestOfSeveral();
        changeBeyond200Hours();
        changeIsNotCountedDownByQuestions();
    }

    private static void lastCalls() {
        lastCallOfOrders();
        lastCallOfHours();
        lastCallAtWork();
    }

    // ---- images: none and all

    private static void noImages() {
        MachineFoundry x = new MachineFoundry();
        for (int machine = 0; machine < 16; machine++) {
            x.report(machine, 0, 99, machine % 4, 15);
            Due.same("no images: matchOf", x.matchOf(machine), MachineFoundry.NONE);
            Due.same("no images: reason", x.reason(machine), MachineFoundry.NO_IMAGE);
            int number = machine;
            Due.thrown("no images: order", IllegalStateException.class, () -> x.order(number));
        }
        Due.same("no images: entries", x.entries(), 16);
    }

    private static void reasonsWithoutAMatch() {
        MachineFoundry x = Scenes.inEveryState();
        x.dropImage(0);
        int[] due = {MachineFoundry.NOT_REPORTED, MachineFoundry.NO_IMAGE, MachineFoundry.NO_IMAGE, MachineFoundry.AT_WORK,
            MachineFoundry.BACKOFF, MachineFoundry.NO_REASON, MachineFoundry.LEAVING, MachineFoundry.FAILURES};
        for (int state = 0; state < 8; state++) {
            Due.same("no images: reason in state " + state, x.reason(state), due[state]);
        }
    }

    private static void allImages() {
        MachineFoundry x = new MachineFoundry();
        x.report(0, 0, 0, 0, 0);
        int[] priorities = {2, 9, 4, 0, 7, 1, 8, 3};
        for (int image = 0; image < 8; image++) {
            x.setImage(image, priorities[image], 0, 1, 0, 0);
        }
        for (int due : new int[] {1, 6, 4, 2, 7, 0, 5, 3}) {
            Due.same("all images: the greatest priority that is left", x.matchOf(0), due);
            x.dropImage(due);
        }
        Due.same("all images are dropped", x.matchOf(0), MachineFoundry.NONE);
    }

    private static void allImagesOfOnePriority() {
        MachineFoundry x = new MachineFoundry();
        x.report(0, 0, 0, 0, 0);
        for (int image = 7; image >= 0; image--) {
            x.setImage(image, 9, 0, 1, 0, 0);
            Due.same("one priority: the lowest number", x.matchOf(0), image);
        }
        for (int image = 0; image < 7; image++) {
            x.dropImage(image);
            Due.same("one priority: the lowest number that is left", x.matchOf(0), image + 1);
        }
    }

    private static void requiredAndBarred() {
        MachineFoundry x = new MachineFoundry();
        x.setImage(0, 0, 0, 15, 4, 4);
        for (int tags = 0; tags < 16; tags++) {
            x.report(0, 0, 99, 0, tags);
            Due.same("a tag that is required and barred, tags " + tags, x.matchOf(0), MachineFoundry.NONE);
        }
    }

    private static void imageInPlaceOfItself() {
        MachineFoundry x = Scenes.withOrdered(1);
        x.setTime(0, 20);
        x.setImage(0, 9, 11, 14, 1, 2);
        Due.same("in place: matchOf", x.matchOf(0), MachineFoundry.NONE);
        Due.same("in place: what is being installed", x.imageOf(0), 0);
        Due.same("in place: its hour", x.endOf(0), 2);
        Due.same("in place: the time stays", x.setTime(0, 1), 20);
    }

    private static void droppedWhileQueued() {
        MachineFoundry x = Scenes.withOrdered(4);
        x.dropImage(0);
        Due.queue("dropped while QUEUED: nothing leaves a full rack", x, 0, "[2 3]");
        Due.same("dropped while QUEUED: reason", x.reason(2), MachineFoundry.NO_IMAGE);
        x.setImage(5, 0, 0, 15, 0, 0);
        Due.same("dropped while QUEUED: reason, another image", x.reason(2), MachineFoundry.BATCH);
        x.finish(0, true);
        Due.same("dropped while QUEUED: the match then", x.imageOf(2), 5);
    }

    private static void droppedWhileInstalling() {
        MachineFoundry x = Scenes.withOrdered(2);
        x.dropImage(0);
        Due.same("dropped while INSTALLING: imageOf", x.imageOf(0), 0);
        Due.same("dropped while INSTALLING: endOf", x.endOf(0), 2);
        Due.same("dropped while INSTALLING: reason", x.reason(0), MachineFoundry.AT_WORK);
        Due.same("dropped while INSTALLING: finish", x.finish(0, true), MachineFoundry.IN_USE);
        Due.same("dropped while INSTALLING: IN_USE with it", x.imageOf(0), 0);
        // Machine 1 fails, waits for an hour, and finds no match: four changes.
        Due.same("dropped while INSTALLING: tried again", x.advance(3), 3);
        Due.same("dropped while INSTALLING: no match then", x.stateOf(1), MachineFoundry.IDLE);
        Due.same("dropped while INSTALLING: its failures stay", x.failuresOf(1), 1);
    }

    private static void droppedWhileDraining() {
        MachineFoundry x = Scenes.with(3, MachineFoundry.DRAINING);
        x.dropImage(0);
        Due.same("dropped while DRAINING: imageOf", x.imageOf(3), 0);
        x.keep(3);
        Due.same("dropped while DRAINING: imageOf, kept", x.imageOf(3), 0);
        x.retire(3, 0);
        Due.same("dropped while DRAINING: imageOf, wiped", x.imageOf(3), MachineFoundry.NONE);
        Due.same("dropped while DRAINING: reason", x.reason(3), MachineFoundry.NO_IMAGE);
    }

    private static void timeOfAnImageThatIsBack() {
        MachineFoundry x = Scenes.withIdle(1);
        x.setTime(0, 24);
        x.dropImage(0);
        x.setImage(0, 0, 0, 15, 0, 0);
        x.order(0);
        Due.same("an image that is back has 2 hours", x.endOf(0), 2);
    }

    // ---- queues: empty and full

    private static void emptyQueue() {
        MachineFoundry x = new MachineFoundry();
        for (int rack = 0; rack < 4; rack++) {
            Due.same("an empty queue: place 0", x.queueAt(rack, 0), MachineFoundry.NONE);
            Due.same("an empty queue: place 1", x.queueAt(rack, 1), MachineFoundry.NONE);
            Due.same("an empty queue: the last place", x.queueAt(rack, Integer.MAX_VALUE), MachineFoundry.NONE);
            Due.same("an empty rack: installing", x.installing(rack), 0);
        }
    }

    private static void emptyQueueWithRoom() {
        MachineFoundry x = Scenes.withIdle(3);
        int entries = x.entries();
        x.setBatch(0, 4);
        Due.same("an empty queue: nothing begins in hours", x.advance(200), 0);
        Due.same("an empty queue: nothing begins", x.entries(), entries);
        Due.states("an empty queue", x, MachineFoundry.IDLE, MachineFoundry.IDLE, MachineFoundry.IDLE);
    }

    private static void fullQueue() {
        MachineFoundry x = Scenes.withQueued(16);
        Due.queue("a full queue", x, 0, "[0 1 2 3 4 5 6 7 8 9 10 11 12 13 14 15]");
        Due.same("a full queue: the place behind it", x.queueAt(0, 16), MachineFoundry.NONE);
        x.setBatch(0, 4);
        Due.queue("a full queue: four begin", x, 0, "[4 5 6 7 8 9 10 11 12 13 14 15]");
        Due.latest("a full queue: the first ones first", x, 0, 1, 2, 3);
    }

    private static void queueOfAnotherRack() {
        MachineFoundry x = Scenes.withQueued(3);
        x.report(9, 1, 10, 0, 0);
        Due.same("a full rack holds up no other", x.order(9), MachineFoundry.INSTALLING);
        Due.queue("a full rack holds up no other", x, 0, "[0 1 2]");
        Due.queue("the other rack", x, 1, "[]");
    }

    private static void firstOfTheQueueHasNoMatch() {
        MachineFoundry x = Scenes.withQueued(4);
        x.report(0, 0, 10, 3, 0);
        x.report(2, 0, 10, 3, 0);
        x.setImage(0, 0, 0, 7, 0, 0);
        Due.queue("no match, no room: they stay", x, 0, "[0 1 2 3]");
        x.setBatch(0, 1);
        Due.states("the first without a match takes no room", x, MachineFoundry.IDLE, MachineFoundry.INSTALLING,
            MachineFoundry.QUEUED, MachineFoundry.QUEUED);
        Due.latest("the first without a match", x, 0, 1);
        x.setBatch(0, 2);
        Due.states("the next without a match", x, MachineFoundry.IDLE, MachineFoundry.INSTALLING,
            MachineFoundry.IDLE, MachineFoundry.INSTALLING);
        Due.latest("the next without a match", x, 2, 3);
    }

    private static void noneOfTheQueueHasAMatch() {
        MachineFoundry x = Scenes.withQueued(16);
        x.dropImage(0);
        x.setBatch(0, 1);
        Due.queue("none has a match: the queue is empty", x, 0, "[]");
        for (int machine = 0; machine < 16; machine++) {
            Due.same("none has a match: " + machine, x.stateOf(machine), MachineFoundry.IDLE);
        }
        Due.latest("none has a match", x, 0, 1, 2, 3, 4, 5, 6, 7, 8, 9, 10, 11, 12, 13, 14, 15);
    }

    private static void racksByTheirNumbers() {
        MachineFoundry x = Scenes.withImage();
        for (int machine = 0; machine < 4; machine++) {
            x.report(machine, 3 - machine, 10, 0, 0);
            x.order(machine);
            x.finish(machine, false);
        }
        Due.same("racks by their numbers: all are QUEUED and begin", x.advance(1), 8);
        Due.latest("racks by their numbers", x, 0, 1, 2, 3, 3, 2, 1, 0);
    }

    private static void lastOfTheQueueIsCancelled() {
        MachineFoundry x = Scenes.withQueued(2);
        x.cancel(1);
        Due.queue("the last one is cancelled", x, 0, "[0]");
        x.cancel(0);
        Due.queue("the only one is cancelled", x, 0, "[]");
        int entries = x.entries();
        x.setBatch(0, 4);
        Due.same("nothing of it begins", x.entries(), entries);
    }

    private static void moveToARackWithRoom() {
        MachineFoundry x = Scenes.withQueued(2);
        Due.same("to a rack with room", x.report(0, 3, 10, 0, 0), MachineFoundry.INSTALLING);
        Due.queue("to a rack with room: the old one", x, 0, "[1]");
        Due.same("to a rack with room: at work there", x.installing(3), 1);
        Due.same("to a rack with room: not here", x.installing(0), 0);
        x.setImage(0, 0, 0, 1, 0, 0);
        Due.same("to a rack with room, without a match", x.report(1, 3, 10, 1, 0), MachineFoundry.IDLE);
    }

    private static void moveToAFullRack() {
        MachineFoundry x = Scenes.withQueued(3);
        x.setBatch(1, 1);
        x.report(8, 1, 10, 0, 0);
        x.report(9, 1, 10, 0, 0);
        x.order(8);
        x.order(9);
        int entries = x.entries();
        Due.same("to a full rack", x.report(0, 1, 10, 0, 0), MachineFoundry.QUEUED);
        Due.queue("to a full rack: the old one", x, 0, "[1 2]");
        Due.queue("to a full rack: behind all others", x, 1, "[9 0]");
        Due.same("to a full rack: no change of a state", x.entries(), entries);
        x.finish(8, true);
        Due.queue("to a full rack: one begins", x, 1, "[0]");
    }

    private static void reportOfTheFirstFromItsOwnRack() {
        MachineFoundry x = Scenes.withQueued(3);
        Due.same("from its own rack", x.report(0, 0, 99, 3, 15), MachineFoundry.QUEUED);
        Due.queue("from its own rack: it keeps its place", x, 0, "[0 1 2]");
    }

    // ---- batches: of 0, full, with room for one

    private static void batchOfEachSize() {
        for (int most = 0; most <= 4; most++) {
            MachineFoundry x = Scenes.withIdle(6);
            x.setBatch(0, most);
            for (int machine = 0; machine < 6; machine++) {
                int due = machine < most ? MachineFoundry.INSTALLING : MachineFoundry.QUEUED;
                Due.same("a batch of " + most + ", order " + machine, x.order(machine), due);
                Due.same("a batch of " + most + " at work", x.installing(0), Math.min(machine + 1, most));
            }
            Due.same("a batch of " + most + ", who waits first", x.queueAt(0, 0), most);
        }
    }

    private static void batchOfZero() {
        MachineFoundry x = Scenes.withIdle(1);
        x.setBatch(0, 0);
        Due.same("a batch of 0: order", x.order(0), MachineFoundry.QUEUED);
        Due.same("a batch of 0: reason", x.reason(0), MachineFoundry.BATCH);
        Due.same("a batch of 0: endOf", x.endOf(0), MachineFoundry.NONE);
        Due.same("a batch of 0: imageOf", x.imageOf(0), MachineFoundry.NONE);
        Due.same("a batch of 0: installing", x.installing(0), 0);
        Due.same("a batch of 0: nextChange", x.nextChange(), MachineFoundry.NONE);
    }

    private static void batchOfZeroForHours() {
        MachineFoundry x = Scenes.withQueued(2);
        x.dropImage(0);
        Due.same("a batch of 0 for hours", x.advance(200), 0);
        Due.queue("a batch of 0: also without a match", x, 0, "[0 1]");
    }

    private static void batchRaisedByOne() {
        MachineFoundry x = Scenes.withQueued(5);
        for (int most = 1; most <= 4; most++) {
            Due.same("raised by one: before", x.setBatch(0, most), most - 1);
            Due.same("raised by one: one begins", x.installing(0), most);
            Due.latest("raised by one: the first one", x, most - 1);
        }
        Due.queue("raised by one: the last one", x, 0, "[4]");
    }

    private static void batchLowered() {
        MachineFoundry x = Scenes.withQueued(6);
        x.setBatch(0, 4);
        int entries = x.entries();
        x.setBatch(0, 0);
        Due.same("lowered: what is INSTALLING goes on", x.installing(0), 4);
        Due.same("lowered: no entry", x.entries(), entries);
        x.setBatch(0, 3);
        x.finish(0, true);
        Due.same("lowered: as many as the batch", x.installing(0), 3);
        x.finish(1, true);
        Due.same("lowered: one below the batch, one begins", x.installing(0), 3);
        Due.queue("lowered: one begins", x, 0, "[5]");
    }

    private static void batchOfOneRackAlone() {
        MachineFoundry x = Scenes.withImage();
        for (int machine = 0; machine < 16; machine++) {
            x.report(machine, machine / 4, 10, 0, 0);
        }
        for (int rack = 0; rack < 4; rack++) {
            x.setBatch(rack, rack + 1);
        }
        for (int machine = 15; machine >= 0; machine--) {
            x.order(machine);
        }
        for (int rack = 0; rack < 4; rack++) {
            Due.same("each rack has its own batch", x.installing(rack), rack + 1);
        }
        Due.queue("each rack has its own queue", x, 0, "[2 1 0]");
        Due.queue("each rack has its own queue", x, 3, "[]");
    }

    private static void failureMakesRoom() {
        MachineFoundry x = Scenes.withOrdered(3);
        Due.same("a failure makes room", x.finish(0, false), MachineFoundry.WAITING);
        Due.latest("a failure makes room", x, 0, 2);
        Due.same("a failure makes room", x.stateOf(2), MachineFoundry.INSTALLING);
    }

    // ---- failing: one below the most, as many, more

    private static void oneFailureBelowTheMost() {
        for (int most = 2; most <= 9; most++) {
            MachineFoundry x = Scenes.withOrdered(1);
            x.setRetries(1, most);
            for (int failures = 1; failures < most; failures++) {
                Due.same("below the most of " + most, x.finish(0, false), MachineFoundry.WAITING);
                Due.same("failuresOf below the most", x.failuresOf(0), failures);
                Due.same("doubled for each but the first", x.nextChange(), 1 << failures - 1);
                x.advance(x.nextChange());
            }
            Due.same("as many as the most of " + most, x.finish(0, false), MachineFoundry.QUARANTINED);
            Due.same("failuresOf, as many", x.failuresOf(0), most);
            Due.same("endOf, as many", x.endOf(0), MachineFoundry.NONE);
        }
    }

    private static void moreFailuresThanTheMost() {
        MachineFoundry x = Scenes.withOrdered(1);
        x.setRetries(1, 9);
        x.finish(0, false);
        x.advance(1);
        x.finish(0, false);
        x.advance(2);
        x.setRetries(1, 1);
        Due.same("more than the most: it goes on until it fails", x.stateOf(0), MachineFoundry.INSTALLING);
        Due.same("more than the most", x.finish(0, false), MachineFoundry.QUARANTINED);
        Due.same("more than the most: failuresOf", x.failuresOf(0), 3);
    }

    private static void mostFailuresOfOne() {
        MachineFoundry x = Scenes.withOrdered(2);
        x.setRetries(1, 1);
        Due.same("the most of 1: two time out", x.advance(2), 2);
        Due.states("the most of 1", x, MachineFoundry.QUARANTINED, MachineFoundry.QUARANTINED);
        Due.same("the most of 1: nothing more", x.nextChange(), MachineFoundry.NONE);
    }

    private static void failuresOutliveACancel() {
        MachineFoundry x = Scenes.withOrdered(1);
        for (int failures = 1; failures < 3; failures++) {
            x.finish(0, false);
            x.cancel(0);
            Due.same("cancel: its failures stay", x.failuresOf(0), failures);
            x.order(0);
        }
        Due.same("cancel: the third failure", x.finish(0, false), MachineFoundry.QUARANTINED);
    }

    private static void noFailuresBehindSuccess() {
        MachineFoundry x = Scenes.withOrdered(1);
        x.finish(0, false);
        x.advance(1);
        x.finish(0, false);
        x.advance(2);
        x.finish(0, true);
        Due.same("success: no failures any more", x.failuresOf(0), 0);
        x.retire(0, 0);
        x.order(0);
        Due.same("success: the first failure again", x.finish(0, false), MachineFoundry.WAITING);
        Due.same("success: the first backoff again", x.nextChange(), 1);
    }

    private static void noFailuresBehindRelease() {
        MachineFoundry x = Scenes.with(0, MachineFoundry.QUARANTINED);
        x.setRetries(5, 2);
        x.release(0);
        x.order(0);
        Due.same("release: the first failure again", x.finish(0, false), MachineFoundry.WAITING);
        Due.same("release: the first backoff", x.nextChange(), 5);
    }

    private static void waitingStaysSo() {
        MachineFoundry x = Scenes.with(0, MachineFoundry.WAITING);
        x.setRetries(24, 1);
        Due.same("WAITING stays so", x.stateOf(0), MachineFoundry.WAITING);
        Due.same("WAITING stays so: its hour", x.endOf(0), 1);
        MachineFoundry y = Scenes.with(0, MachineFoundry.QUARANTINED);
        y.setRetries(1, 9);
        Due.same("QUARANTINED stays so", y.stateOf(0), MachineFoundry.QUARANTINED);
        Due.same("QUARANTINED stays so for hours", y.advance(200), 0);
    }

    private static void longestBackoff() {
        MachineFoundry x = Scenes.withOrdered(1);
        x.setRetries(1, 9);
        for (int failures = 1; failures < 8; failures++) {
            x.finish(0, false);
            x.advance(x.nextChange());
        }
        x.setRetries(24, 9);
        int now = x.now();
        Due.same("the longest backoff", x.finish(0, false), MachineFoundry.WAITING);
        Due.same("the longest backoff: endOf", x.endOf(0), now + 24 * 128);
        for (int i = 0; i < 15; i++) {
            Due.same("the longest backoff: nothing before", x.advance(200), 0);
        }
        Due.same("the longest backoff: nothing an hour ahead", x.advance(71), 0);
        Due.same("the longest backoff: then", x.advance(1), 2);
    }

    private static void queuedBehindOthersAgain() {
        MachineFoundry x = Scenes.withOrdered(5);
        x.setBatch(0, 1);
        x.finish(0, false);
        Due.queue("while it is WAITING", x, 0, "[2 3 4]");
        x.advance(1);
        Due.queue("when it has waited: behind all others", x, 0, "[2 3 4 0]");
    }

    private static void reportWhileInstalling() {
        MachineFoundry x = Scenes.withOrdered(3);
        x.setRetries(6, 2);
        Due.same("report while INSTALLING: below the most", x.report(0, 0, 10, 0, 0), MachineFoundry.WAITING);
        Due.same("report while INSTALLING: endOf", x.endOf(0), 6);
        Due.latest("report while INSTALLING: there is room", x, 0, 2);
        x.setRetries(6, 1);
        Due.same("report while INSTALLING: as many as the most", x.report(1, 0, 10, 0, 0), MachineFoundry.QUARANTINED);
        Due.same("report while INSTALLING: failuresOf", x.failuresOf(1), 1);
    }

    /** "A machine reports itself, as it is now": it fails, and is in the new rack from then on. */
    private static void reportWhileInstallingFromAnotherRack() {
        MachineFoundry x = Scenes.withOrdered(3);
        x.setBatch(1, 0);
        Due.same("from another rack: it fails", x.report(0, 1, 10, 0, 0), MachineFoundry.WAITING);
        Due.same("from another rack: the old rack has room", x.stateOf(2), MachineFoundry.INSTALLING);
        Due.same("from another rack: the old rack", x.installing(0), 2);
        Due.same("from another rack: the new rack", x.installing(1), 0);
        x.advance(1);
        Due.queue("from another rack: QUEUED there", x, 1, "[0]");
        Due.queue("from another rack: not here", x, 0, "[]");
    }

    // ---- reports in all other states

    private static void reportChangesWhatIsKnownAlone(int state) {
        String what = "report in state " + state;
        MachineFoundry x = Scenes.with(0, state);
        x.setImage(7, 9, 99, 8, 15, 0);
        int entries = x.entries();
        int end = x.endOf(0);
        int image = x.imageOf(0);
        int failures = x.failuresOf(0);
        int change = x.nextChange();
        Due.same(what, x.report(0, 3, 99, 3, 15), state);
        Due.same(what + ": matchOf", x.matchOf(0), 7);
        Due.same(what + ": entries", x.entries(), entries);
        Due.same(what + ": endOf", x.endOf(0), end);
        Due.same(what + ": imageOf", x.imageOf(0), image);
        Due.same(what + ": failuresOf", x.failuresOf(0), failures);
        Due.same(what + ": nextChange", x.nextChange(), change);
        Due.same(what + ": wipes", x.wipes(), 0);
    }

    private static void reportFromAnotherRackCounts(int state) {
        String what = "report from another rack in state " + state;
        MachineFoundry x = Scenes.with(0, state);
        Due.same(what, x.report(0, 3, 10, 0, 0), state);
        Due.same(what + ": not in the old one", Due.placesOf(x), "[][][][0]");
    }

    private static void reportWhileWaitingCountsForTheNextTry() {
        MachineFoundry x = Scenes.with(0, MachineFoundry.WAITING);
        x.setImage(7, 9, 99, 15, 0, 0);
        x.setBatch(0, 0);
        x.report(0, 3, 99, 0, 0);
        Due.same("report while WAITING: QUEUED, and begun", x.advance(1), 2);
        Due.same("report while WAITING: in the rack that it has now", x.installing(3), 1);
        Due.same("report while WAITING: with the match that it has now", x.imageOf(0), 7);
    }

    private static void firstReport() {
        MachineFoundry x = Scenes.withImage();
        Due.same("ahead of the first report: matchOf", x.matchOf(15), MachineFoundry.NONE);
        Due.same("ahead of the first report: reason", x.reason(15), MachineFoundry.NOT_REPORTED);
        Due.same("the first report", x.report(15, 3, 0, 0, 0), MachineFoundry.IDLE);
        Due.same("behind the first report: matchOf", x.matchOf(15), 0);
        Due.same("behind the first report: reason", x.reason(15), MachineFoundry.NOT_ORDERED);
        Due.same("the second report", x.report(15, 3, 0, 0, 0), MachineFoundry.IDLE);
        Due.same("the second report: entries", x.entries(), 1);
    }

    // ---- hours: the last one, and the one ahead of it

    private static void shortestTime() {
        MachineFoundry x = Scenes.withIdle(1);
        x.setTime(0, 1);
        x.setRetries(24, 9);
        x.order(0);
        Due.same("the shortest time: endOf", x.endOf(0), 1);
        Due.same("the shortest time: it fails in the next hour", x.advance(1), 1);
        Due.same("the shortest time", x.stateOf(0), MachineFoundry.WAITING);
        Due.same("the shortest time: the wait begins then", x.endOf(0), 25);
    }

    private static void longestTime() {
        MachineFoundry x = Scenes.withIdle(1);
        x.advance(100);
        x.setTime(0, 24);
        x.order(0);
        Due.same("the longest time: endOf", x.endOf(0), 124);
        Due.same("the longest time: an hour ahead", x.advance(23), 0);
        Due.same("the longest time: still at work", x.stateOf(0), MachineFoundry.INSTALLING);
        Due.same("the longest time: then", x.advance(1), 1);
        Due.same("the longest time: it failed", x.failuresOf(0), 1);
    }

    private static void timeSetWhileInstalling() {
        MachineFoundry x = Scenes.withOrdered(3);
        x.setTime(0, 1);
        Due.same("as the time was when it began", x.endOf(0), 2);
        x.finish(0, true);
        Due.same("as the time is now", x.endOf(2), 1);
    }

    private static void hoursOneByOne() {
        MachineFoundry one = Scenes.busy();
        MachineFoundry many = Scenes.busy();
        int added = 0;
        for (int i = 0; i < 50; i++) {
            added += one.advance(1);
        }
        Due.same("50 hours one by one, and at once", many.advance(50), added);
        Due.same("50 hours one by one, and at once", Due.allOf(many), Due.allOf(one));
    }

    private static void severalEndsInOneHour() {
        MachineFoundry x = Scenes.withImage();
        for (int machine = 0; machine < 3; machine++) {
            x.report(machine, machine, 10, 0, 0);
            x.order(machine);
        }
        x.setRetries(2, 3);
        x.finish(0, false);
        x.finish(1, true);
        x.retire(1, 2);
        Due.same("several ends: endOf WAITING", x.endOf(0), 2);
        Due.same("several ends: endOf DRAINING", x.endOf(1), 2);
        Due.same("several ends: endOf INSTALLING", x.endOf(2), 2);
        Due.same("several ends: an hour ahead", x.advance(1), 0);
        Due.same("several ends", x.advance(1), 4);
        Due.latest("several ends: fail, wipe, queue, begin", x, 2, 1, 0, 0);
    }

    private static void finishInTheLastHour() {
        MachineFoundry x = Scenes.withOrdered(1);
        x.advance(1);
        Due.same("finished in the last hour", x.finish(0, true), MachineFoundry.IN_USE);
        Due.same("finished in the last hour: nothing ends", x.advance(200), 0);
        Due.same("finished in the last hour: endOf", x.endOf(0), MachineFoundry.NONE);
    }

    // ---- leaving

    private static void retireWithoutHours() {
        MachineFoundry x = Scenes.withInUse();
        int entries = x.entries();
        x.retire(0, 0);
        Due.same("without hours: one change", x.entries(), entries + 1);
        Due.same("without hours: from IN_USE", x.stateBefore(0, 1), MachineFoundry.IN_USE);
        Due.same("without hours: IDLE", x.stateOf(0), MachineFoundry.IDLE);
        Due.same("without hours: no end", x.endOf(0), MachineFoundry.NONE);
        Due.same("without hours: wiped", x.wipes(), 1);
        Due.same("without hours: wiped once", x.advance(200) + x.wipes(), 1);
    }

    private static void retireForOneHour() {
        MachineFoundry x = Scenes.withInUse();
        x.retire(0, 1);
        Due.same("for one hour: DRAINING", x.stateOf(0), MachineFoundry.DRAINING);
        Due.same("for one hour: reason", x.reason(0), MachineFoundry.LEAVING);
        Due.same("for one hour: not wiped", x.wipes(), 0);
        Due.same("for one hour: then", x.advance(1), 1);
        Due.same("for one hour: wiped", x.wipes(), 1);
        Due.same("for one hour: reason then", x.reason(0), MachineFoundry.NOT_ORDERED);
    }

    private static void keptInTheLastHour() {
        MachineFoundry x = Scenes.withInUse();
        x.retire(0, 48);
        x.advance(47);
        x.keep(0);
        Due.same("kept in the last hour", x.advance(200), 0);
        Due.same("kept in the last hour", x.stateOf(0), MachineFoundry.IN_USE);
        Due.same("kept in the last hour: reason", x.reason(0), MachineFoundry.NO_REASON);
        Due.same("kept in the last hour: wipes", x.wipes(), 0);
    }

    private static void retiredAgain() {
        MachineFoundry x = Scenes.with(0, MachineFoundry.DRAINING);
        x.keep(0);
        x.retire(0, 2);
        Due.same("retired again: its new hours", x.endOf(0), 2);
        Due.same("retired again: they alone", x.advance(2), 1);
        Due.same("retired again: wiped once", x.wipes(), 1);
    }

    private static void wipesOfAll() {
        MachineFoundry x = Scenes.withIdle(16);
        Due.same("wipes: none", x.wipes(), 0);
        for (int machine = 0; machine < 16; machine++) {
            x.order(machine);
            x.finish(machine, true);
            x.retire(machine, machine % 2 * 3);
        }
        Due.same("wipes: half of them at once", x.wipes(), 8);
        Due.same("wipes: the others", x.advance(3), 8);
        Due.same("wipes: all", x.wipes(), 16);
    }

    // ---- the journal: empty, full, and one more

    private static void emptyJournal() {
        MachineFoundry x = new MachineFoundry();
        Due.same("an empty journal: entries", x.entries(), 0);
        Due.thrown("an empty journal: machineAt(0)", IndexOutOfBoundsException.class, () -> x.machineAt(0));
        for (int machine = 0; machine < 16; machine++) {
            int number = machine;
            Due.same("an empty journal: stateBefore", x.stateBefore(machine, 0), MachineFoundry.UNKNOWN);
            Due.thrown("an empty journal: one change", IllegalArgumentException.class, () -> x.stateBefore(number, 1));
        }
    }

    private static void journalOfRulesAlone() {
        MachineFoundry x = new MachineFoundry();
        for (int image = 0; image < 8; image++) {
            x.setImage(image, 9, 0, 15, 0, 0);
            x.setTime(image, 24);
        }
        for (int rack = 0; rack < 4; rack++) {
            x.setBatch(rack, 4);
        }
        x.setRetries(24, 9);
        x.dropImage(0);
        x.advance(200);
        Due.same("rules and hours alone are no changes of a state", x.entries(), 0);
    }

    private static void journalOfOne() {
        MachineFoundry x = new MachineFoundry();
        x.report(7, 0, 0, 0, 0);
        Due.same("a journal of one: entries", x.entries(), 1);
        Due.same("a journal of one: machineAt(0)", x.machineAt(0), 7);
        Due.thrown("a journal of one: machineAt(1)", IndexOutOfBoundsException.class, () -> x.machineAt(1));
        Due.same("a journal of one: 0 changes", x.stateBefore(7, 0), MachineFoundry.IDLE);
        Due.same("a journal of one: 1 change", x.stateBefore(7, 1), MachineFoundry.UNKNOWN);
        Due.thrown("a journal of one: 2 changes", IllegalArgumentException.class, () -> x.stateBefore(7, 2));
    }

    /** 16 reports, and then cancels and orders of machine 0: how many are added is told by the caller. */
    private static MachineFoundry withEntries(int added) {
        MachineFoundry x = Scenes.withIdle(16);
        x.setBatch(0, 0);
        for (int i = 16; i < added; i++) {
            if (i % 2 == 0) {
                x.order(0);
            } else {
                x.cancel(0);
            }
        }
        return x;
    }

    private static void journalOf39To42() {
        int[] oldest = {0, 0, 1, 2};
        for (int added = 39; added <= 42; added++) {
            MachineFoundry x = withEntries(added);
            int kept = Math.min(added, 40);
            Due.same(added + " entries: kept", x.entries(), kept);
            Due.same(added + " entries: the latest", x.machineAt(0), 0);
            Due.same(added + " entries: the oldest", x.machineAt(kept - 1), oldest[added - 39]);
            Due.thrown(added + " entries: beyond", IndexOutOfBoundsException.class, () -> x.machineAt(kept));
            Due.thrown(added + " entries: changes beyond", IllegalArgumentException.class, () -> x.stateBefore(0, kept + 1));
            Due.same(added + " entries: machine 0 ahead of all", x.stateBefore(0, kept), added <= 40 ? MachineFoundry.UNKNOWN : MachineFoundry.IDLE);
            Due.same(added + " entries: machine 2 ahead of all", x.stateBefore(2, kept), MachineFoundry.UNKNOWN);
            Due.same(added + " entries: machine 1 ahead of all", x.stateBefore(1, kept), added <= 41 ? MachineFoundry.UNKNOWN : MachineFoundry.IDLE);
        }
    }

    /** 16 machines, four in each rack, that are at work at once, and fail each hour that they can. */
    private static MachineFoundry withAllAtWork() {
        MachineFoundry x = Scenes.withImage();
        x.setRetries(1, 9);
        x.setTime(0, 1);
        for (int machine = 0; machine < 16; machine++) {
            x.setBatch(machine % 4, 4);
            x.report(machine, machine % 4, 10, 0, 0);
            x.order(machine);
        }
        return x;
    }

    private static void journalFilledByOneCall() {
        MachineFoundry x = withAllAtWork();
        // In hour 1 all fail, in hour 2 all are QUEUED and begin: 48 entries.
        Due.same("a journal filled by one call: added", x.advance(2), 48);
        Due.same("a journal filled by one call: kept", x.entries(), 40);
        Due.latest("a journal filled by one call", x, 8, 9, 10, 11, 12, 13, 14, 15,
            0, 1, 2, 3, 4, 5, 6, 7, 8, 9, 10, 11, 12, 13, 14, 15,
            0, 4, 8, 12, 1, 5, 9, 13, 2, 6, 10, 14, 3, 7, 11, 15);
        Due.same("ahead of all that is kept, failed by then", x.stateBefore(7, 40), MachineFoundry.WAITING);
        Due.same("ahead of all that is kept, not yet failed", x.stateBefore(8, 40), MachineFoundry.INSTALLING);
    }

    private static void stateBeforeAFullJournal() {
        MachineFoundry x = withEntries(60);
        for (int changes = 0; changes <= 40; changes++) {
            Due.same("a full journal: " + changes + " changes of 0", x.stateBefore(0, changes),
                changes % 2 == 0 ? MachineFoundry.IDLE : MachineFoundry.QUEUED);
            Due.same("a full journal: " + changes + " changes of 1", x.stateBefore(1, changes), MachineFoundry.IDLE);
        }
    }

    /** "Returns how many entries were added to the journal": not how many it keeps. */
    private static void addedNotKept() {
        MachineFoundry x = withAllAtWork();
        // Waits of 1, 2, 4, .. 64 hours, and an hour at work behind each: the
        // eighth failure is in hour 135, and its wait of 128 ends beyond 200.
        Due.same("added by one call", x.advance(200), 16 * (8 + 7 + 7));
        Due.same("kept behind it", x.entries(), 40);
    }

    // ---- nextChange

    private static void neverAChange() {
        Due.same("never a change: a new object", new MachineFoundry().nextChange(), MachineFoundry.NONE);
        for (int state : new int[] {MachineFoundry.UNKNOWN, MachineFoundry.IDLE, MachineFoundry.QUEUED,
                MachineFoundry.IN_USE, MachineFoundry.QUARANTINED}) {
            MachineFoundry x = Scenes.with(15, state);
            Due.same("never a change: state " + state, x.nextChange(), MachineFoundry.NONE);
            Due.same("never a change: state " + state + ", for hours", x.advance(200), 0);
            Due.same("never a change: state " + state + ", then", x.nextChange(), MachineFoundry.NONE);
        }
    }

    private static void changeInOneHour() {
        for (int state : new int[] {MachineFoundry.INSTALLING, MachineFoundry.WAITING, MachineFoundry.DRAINING}) {
            MachineFoundry x = Scenes.with(15, state);
            int hours = x.nextChange();
            Due.same("in one hour: endOf", x.endOf(15), hours);
            Due.same("in one hour: nothing before", hours == 1 ? 0 : x.advance(hours - 1), 0);
            Due.same("in one hour: state " + state, x.nextChange(), 1);
            Due.same("in one hour: state " + state + ", then", x.advance(1) > 0 ? 1 : 0, 1);
        }
    }

    private static void earliestOfSeveral() {
        MachineFoundry x = Scenes.withImage();
        int[] hours = {24, 7, 3, 19};
        for (int machine = 0; machine < 4; machine++) {
            x.report(machine, machine, 10, 0, 0);
            x.setTime(0, hours[machine]);
            x.order(machine);
        }
        x.setRetries(24, 1);
        Due.same("the earliest of several", x.nextChange(), 3);
        x.advance(3);
        Due.same("the earliest that is left", x.nextChange(), 4);
        x.finish(1, true);
        Due.same("the earliest then", x.nextChange(), 16);
        x.finish(3, true);
        Due.same("the last one", x.nextChange(), 21);
        x.finish(0, true);
        Due.same("none is left", x.nextChange(), MachineFoundry.NONE);
    }

    private static void changeBeyond200Hours() {
        MachineFoundry x = Scenes.withOrdered(1);
        x.setRetries(1, 9);
        for (int failures = 1; failures < 5; failures++) {
            x.finish(0, false);
            x.advance(x.nextChange());
        }
        x.setRetries(24, 9);
        x.finish(0, false);
        Due.same("beyond 200 hours", x.nextChange(), 384);
        Due.same("beyond 200 hours: the first call", x.advance(200), 0);
        Due.same("beyond 200 hours: what is left", x.nextChange(), 184);
        Due.same("beyond 200 hours: an hour ahead", x.advance(183), 0);
        Due.same("beyond 200 hours: then", x.advance(1), 2);
    }

    private static void changeIsNotCountedDownByQuestions() {
        MachineFoundry x = Scenes.with(0, MachineFoundry.DRAINING);
        for (int i = 0; i < 3; i++) {
            Due.same("asked again", x.nextChange(), 9);
            Due.same("asked again: the hour", x.now(), 0);
        }
    }

    // ---- the 512 calls of an object

    private static void lastCallOfOrders() {
        MachineFoundry x = new MachineFoundry();
        x.setImage(0, 0, 0, 15, 0, 0);
        x.report(0, 0, 0, 0, 0);
        x.setBatch(0, 0);
        for (int call = 4; call < 512; call += 2) {
            Due.same("call " + call, x.order(0), MachineFoundry.QUEUED);
            x.cancel(0);
        }
        Due.same("call 512: stateBefore", x.stateBefore(0, 39), MachineFoundry.QUEUED);
    }

    private static void lastCallOfHours() {
        MachineFoundry x = new MachineFoundry();
        for (int call = 1; call < 512; call++) {
            Due.same("call " + call, x.advance(200), 0);
        }
        Due.same("call 512: now", x.now(), 511 * 200);
    }

    private static void lastCallAtWork() {
        MachineFoundry x = Scenes.withImage();
        x.report(0, 0, 0, 0, 0);
        for (int call = 3; call + 5 <= 512; call += 5) {
            x.order(0);
            x.finish(0, true);
            x.retire(0, 48);
            Due.same("call " + (call + 3), x.advance(48), 1);
            Due.same("call " + (call + 4), x.wipes(), call / 5 + 1);
        }
    }
}
