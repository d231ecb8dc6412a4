/** The edges that promises 8 to 17 name: one test for each sentence, in the document's order. */
public final class RecordingsEdgeTest {
    private static final int NONE = EventRecorder.NONE;
    private static final int LOW = Integer.MIN_VALUE;
    private static final int HIGH = Integer.MAX_VALUE;
    private static final int NEW = 0;
    private static final int RUNNING = 1;
    private static final int STOPPED = 2;
    private static final int CLOSED = 3;
    private static final Check check = new Check();

    public static void main(String[] args) {
        recordWhenThereAreFour();
        settingsOfNoRecording();
        settingsOfATextThatIsNone();
        settingsOfAClosedOne();
        settingsWithBothFaults();
        settingsInEveryOtherState();
        profileOfAnEmptyText();
        profileOfOnePart();
        profileOfEmptyParts();
        profilePartsThatAreNotSo();
        profilePartsWhoseSettingsWouldThrow();
        profilePartByPart();
        profileCountsBoth();
        startOfNoRecording();
        startOfOneThatIsNotNew();
        startRotatesFirst();
        stopOfNoRecording();
        stopOfOneThatDoesNotRun();
        stopRotates();
        closeOfNoRecording();
        closeOfAClosedOne();
        closeOfOneThatRuns();
        closeOfANewOrStoppedOne();
        dumpOfNoRecording();
        dumpOfANewOrClosedOne();
        dumpOfOneThatRuns();
        dumpOfAStoppedOne();
        dumpFromItsFirstChunk();
        dumpUpToItsLastChunk();
        dumpOfNoChunks();
        dumpOfEvictedChunks();
        outputOutside();
        outputOfTheLatest();
        stateOfNoRecording();
        statesInTheirOrder();
        thresholdOfNoRecording();
        thresholdOfNoType();
        thresholdWhenItIsOff();
        thresholdOfAClosedOne();
        check.end();
    }

    /** One type with an int, and recordings 0 .. 3, each in the state of its own number; chunk 4 is open. */
    private static EventRecorder inEveryState() {
        EventRecorder x = new EventRecorder(16, 1, 5);
        x.type(1, false);
        for (int k = 0; k < 4; k++) {
            x.record();
        }
        x.start(RUNNING);
        x.start(STOPPED);
        x.stop(STOPPED);
        x.close(CLOSED);
        return x;
    }

    private static int[] noRecording() {
        return new int[] {LOW, -1, 4, 5, HIGH};
    }

    private static void thresholds(EventRecorder x, int... want) {
        for (int recording = 0; recording < want.length; recording++) {
            check.due("threshold(" + recording + ", 0)", x.threshold(recording, 0), want[recording]);
        }
    }

    private static void recordWhenThereAreFour() {
        check.in("promise 8: IllegalStateException if there are 4");
        EventRecorder x = new EventRecorder(16, 1, 1);
        for (int k = 0; k < 4; k++) {
            check.due("record()", x.record(), k);
        }
        check.badState("record() a fifth time", x::record);
        check.badState("record() a sixth time", x::record);
        check.due("state(3)", x.state(3), NEW);
        check.due("state(4)", x.state(4), NONE);
        EventRecorder y = inEveryState();
        check.badState("record() when one of four is closed", y::record);
    }

    private static void settingsOfNoRecording() {
        check.in("promise 9: IllegalArgumentException if there is no such recording");
        EventRecorder x = inEveryState();
        for (int recording : noRecording()) {
            Check.text(x, "0+5");
            check.badArgument("settings(" + recording + ")", () -> x.settings(recording));
            check.noText("settings(" + recording + ")", x, 0);
        }
        thresholds(x, 0, 0, 0, 0);
        EventRecorder y = Check.running(16, 1, 1);
        Check.text(y, "0+5");
        check.badArgument("settings(1), which is not made yet", () -> y.settings(1));
        y.record();
        check.due("settings(1)", Check.settings(y, 1, "0+5"), 1);
    }

    private static void settingsOfATextThatIsNone() {
        check.in("promise 9: IllegalArgumentException if the text is not settings");
        EventRecorder x = inEveryState();
        Check.profile(x, "0:0+7|1:0+7|2:0+7");
        for (String text : new String[] {"", " ", "0", "1+", "0+5,", "0+5,1+", "0:0+5", "0+5|0+6", "0+1234"}) {
            for (int recording = NEW; recording <= STOPPED; recording++) {
                int chosen = recording;
                Check.text(x, text);
                check.badArgument("settings(" + chosen + ") of '" + text + "'", () -> x.settings(chosen));
            }
        }
        thresholds(x, 7, 7, 7);
        check.noText("settings that were none", x, 0);
    }

    private static void settingsOfAClosedOne() {
        check.in("promise 9: IllegalStateException if it is closed");
        EventRecorder x = inEveryState();
        Check.text(x, "0+5");
        check.badState("settings(3)", () -> x.settings(CLOSED));
        Check.text(x, "0-");
        check.badState("settings(3)", () -> x.settings(CLOSED));
        thresholds(x, 0, 0, 0, 0);
        check.noText("settings(3)", x, 0);
    }

    private static void settingsWithBothFaults() {
        check.in("promise 9: the one named first, if both hold");
        EventRecorder x = inEveryState();
        check.badArgument("settings(3) of an empty text", () -> x.settings(CLOSED));
        Check.text(x, "0*");
        check.badArgument("settings(3) of what is none", () -> x.settings(CLOSED));
        Check.text(x, "1+");
        check.badArgument("settings(3) of a type that is not declared", () -> x.settings(CLOSED));
        check.noText("settings(3)", x, 0);
    }

    private static void settingsInEveryOtherState() {
        check.in("promise 9: a new, a running and a stopped one");
        EventRecorder x = inEveryState();
        for (int recording = NEW; recording <= STOPPED; recording++) {
            check.due("settings(" + recording + ")", Check.settings(x, recording, "0+" + (recording + 1)), 1);
        }
        thresholds(x, 1, 2, 3, 0);
        check.due("count(1), as settings do not rotate", x.count(1), 4);
    }

    private static void profileOfAnEmptyText() {
        check.in("promise 10: an empty text is one part that is bad");
        check.due("profile() of a new object", new EventRecorder(16, 1, 1).profile(), 1);
        EventRecorder x = inEveryState();
        check.due("profile()", x.profile(), 1);
        check.due("profile() again", x.profile(), 1);
    }

    private static void profileOfOnePart() {
        check.in("promise 10: one part, if there is no |");
        EventRecorder x = inEveryState();
        check.due("a good one", Check.profile(x, "0:0+8"), 10);
        check.due("a bad one", Check.profile(x, "0+9"), 1);
        check.due("a good one of 40 characters", Check.profile(x, "0:0-,0-,0-,0-,0-,0-,0-,0-,0-,0-,0-,0+123"), 10);
        thresholds(x, 123, 0, 0, 0);
    }

    private static void profileOfEmptyParts() {
        check.in("promise 10: empty parts are bad");
        EventRecorder x = inEveryState();
        check.due("profile() of |", Check.profile(x, "|"), 2);
        check.due("an empty one before", Check.profile(x, "|0:0+1"), 11);
        check.due("an empty one behind", Check.profile(x, "0:0+2|"), 11);
        check.due("an empty one between", Check.profile(x, "0:0+3||1:0+4"), 21);
        thresholds(x, 3, 4, 0, 0);
    }

    private static void profilePartsThatAreNotSo() {
        check.in("promise 10: the number of a recording (a digit), : and settings");
        EventRecorder x = inEveryState();
        String[] bad = {"0", "0:", ":", ":0+9", "00:0+9", "0;0+9", "0 :0+9", " 0:0+9", "0::0+9", "/:0+9", "::0+9", "a:0+9"};
        for (String part : bad) {
            check.due("profile() of '" + part + "'", Check.profile(x, part), 1);
            check.due("profile() of '" + part + "' and good ones", Check.profile(x, "1:0+5|" + part + "|2:0+6"), 21);
        }
        thresholds(x, 0, 5, 6, 0);
    }

    private static void profilePartsWhoseSettingsWouldThrow() {
        check.in("promise 10: one for whose recording settings() would throw is bad and changes nothing");
        EventRecorder x = inEveryState();
        String[] bad = {"4:0+9", "9:0+9", "3:0+9", "0:1+9", "0:0+9,", "0:0+9,1+9", "0:0+1234", "0:,", "0:0", "0:0*9"};
        for (String part : bad) {
            check.due("profile() of '" + part + "'", Check.profile(x, part), 1);
            check.due("profile() of '" + part + "' and a good one", Check.profile(x, part + "|1:0+5"), 11);
        }
        thresholds(x, 0, 5, 0, 0);
        EventRecorder y = Check.running(16, 1, 1);
        check.due("profile() of a recording not made yet", Check.profile(y, "1:0+9|0:0+4"), 11);
        check.due("threshold(0, 0)", y.threshold(0, 0), 4);
    }

    private static void profilePartByPart() {
        check.in("promise 10: part by part, from the left");
        EventRecorder x = inEveryState();
        check.due("profile()", Check.profile(x, "0:0+1|1:0+2|0:0+3|2:0-4|2:0+"), 50);
        thresholds(x, 3, 2, 4, 0);
        check.due("profile() with a bad one amid them", Check.profile(x, "0:0+6|0:0+7,|1:0-|3:0+|2:0+8"), 32);
        thresholds(x, 6, NONE, 8, 0);
        check.noText("profile()", x, 0);
    }

    private static void profileCountsBoth() {
        check.in("promise 10: 10 * how many were carried out + how many were bad");
        EventRecorder x = inEveryState();
        check.due("eight good ones", Check.profile(x, "0:0+|0:0+|0:0+|0:0+|0:0+|0:0+|0:0+|0:0+"), 80);
        check.due("ten bad ones", Check.profile(x, "|||||||||"), 10);
        check.due("41 bad ones", Check.profile(x, "||||||||||||||||||||||||||||||||||||||||"), 41);
        check.due("one good and 36 bad", Check.profile(x, "||||||||||||||||||||||||||||||||||||0:0+"), 46);
        check.due("seven good and five bad", Check.profile(x, "|||||0:0+|0:0+|0:0+|0:0+|0:0+|0:0+|0:0+1"), 75);
    }

    private static void startOfNoRecording() {
        check.in("promise 11: IllegalArgumentException if there is no such recording");
        EventRecorder x = inEveryState();
        for (int recording : noRecording()) {
            check.badArgument("start(" + recording + ")", () -> x.start(recording));
        }
        check.due("count(1), as nothing rotated", x.count(1), 4);
    }

    private static void startOfOneThatIsNotNew() {
        check.in("promise 11: IllegalStateException if it is not new");
        EventRecorder x = inEveryState();
        Check.event(x, 0, 0);
        for (int recording = RUNNING; recording <= CLOSED; recording++) {
            int chosen = recording;
            check.badState("start(" + chosen + ")", () -> x.start(chosen));
            check.due("state(" + chosen + ")", x.state(chosen), chosen);
        }
        check.due("count(1), as nothing rotated", x.count(1), 4);
        check.due("buffered(0)", x.buffered(0), 5);
        check.due("start(0)", x.start(NEW), 5);
        check.badState("start(0) again", () -> x.start(NEW));
    }

    private static void startRotatesFirst() {
        check.in("promise 11: rotates, then the recording runs");
        EventRecorder x = inEveryState();
        Check.event(x, 0, 0, 1);
        check.due("start(0)", x.start(NEW), 5);
        check.due("count(1)", x.count(1), 5);
        check.due("count(3)", x.count(3), 1);
        check.due("buffered(0)", x.buffered(0), 0);
        check.due("dump(0), which has nothing of before", x.dump(NEW), 0);
        check.due("dump(1)", x.dump(RUNNING), 11);
        EventRecorder y = inEveryState();
        check.due("start(0) of an empty chunk", y.start(NEW), 5);
        check.due("count(3), as it is not kept", y.count(3), 0);
    }

    private static void stopOfNoRecording() {
        check.in("promise 12: IllegalArgumentException if there is no such recording");
        EventRecorder x = inEveryState();
        for (int recording : noRecording()) {
            check.badArgument("stop(" + recording + ")", () -> x.stop(recording));
        }
        check.due("count(1), as nothing rotated", x.count(1), 4);
    }

    private static void stopOfOneThatDoesNotRun() {
        check.in("promise 12: IllegalStateException if it does not run");
        EventRecorder x = inEveryState();
        Check.event(x, 0, 0);
        for (int recording : new int[] {NEW, STOPPED, CLOSED}) {
            check.badState("stop(" + recording + ")", () -> x.stop(recording));
            check.due("state(" + recording + ")", x.state(recording), recording);
        }
        check.due("count(1), as nothing rotated", x.count(1), 4);
        check.due("buffered(0)", x.buffered(0), 5);
        check.due("stop(1)", x.stop(RUNNING), 4);
        check.badState("stop(1) again", () -> x.stop(RUNNING));
    }

    private static void stopRotates() {
        check.in("promise 12: it ends with the chunk that is open, which rotates");
        EventRecorder x = inEveryState();
        x.start(NEW);
        Check.event(x, 0, 0, 1);
        check.due("stop(0)", x.stop(NEW), 5);
        check.due("count(1)", x.count(1), 6);
        check.due("buffered(0)", x.buffered(0), 0);
        Check.event(x, 0, 0, 2);
        x.dump(RUNNING);
        check.due("dump(0), with its last event and no later one", x.dump(NEW), 11);
        check.output(x, 70, 5, 0, 1, 4, 0, 0, 0, 2, 0, 0);
        EventRecorder y = inEveryState();
        check.due("stop(1) of an empty chunk", y.stop(RUNNING), 4);
        check.due("count(1)", y.count(1), 5);
        check.due("count(3)", y.count(3), 0);
        check.due("commit when none runs", Check.event(y, 0, 0), 2);
    }

    private static long closed(EventRecorder x, int recording) {
        return x.close(recording) ? 1 : 0;
    }

    private static void closeOfNoRecording() {
        check.in("promise 13: IllegalArgumentException if there is no such recording");
        EventRecorder x = inEveryState();
        for (int recording : noRecording()) {
            check.badArgument("close(" + recording + ")", () -> closed(x, recording));
        }
        check.due("count(1), as nothing rotated", x.count(1), 4);
    }

    private static void closeOfAClosedOne() {
        check.in("promise 13: IllegalStateException if it is closed already");
        EventRecorder x = inEveryState();
        Check.event(x, 0, 0);
        check.badState("close(3)", () -> closed(x, CLOSED));
        check.due("buffered(0), as nothing rotated", x.buffered(0), 5);
        for (int recording = NEW; recording <= STOPPED; recording++) {
            int chosen = recording;
            check.due("close(" + chosen + ")", closed(x, chosen), chosen == RUNNING ? 1 : 0);
            check.badState("close(" + chosen + ") again", () -> closed(x, chosen));
        }
        check.due("count(1), as one of them ran", x.count(1), 5);
    }

    private static void closeOfOneThatRuns() {
        check.in("promise 13: a recording that runs is stopped first, as by stop");
        EventRecorder x = inEveryState();
        Check.event(x, 0, 0);
        check.yes("close(1)", x.close(RUNNING));
        check.due("state(1)", x.state(RUNNING), CLOSED);
        check.due("count(1)", x.count(1), 5);
        check.due("count(3)", x.count(3), 1);
        check.due("buffered(0)", x.buffered(0), 0);
        check.due("commit when none runs", Check.event(x, 0, 0), 2);
        check.badState("stop(1)", () -> x.stop(RUNNING));
    }

    private static void closeOfANewOrStoppedOne() {
        check.in("promise 13: a new or stopped one is closed, too");
        EventRecorder x = inEveryState();
        Check.event(x, 0, 0);
        check.no("close(0)", x.close(NEW));
        check.no("close(2)", x.close(STOPPED));
        check.due("state(0)", x.state(NEW), CLOSED);
        check.due("state(2)", x.state(STOPPED), CLOSED);
        check.due("count(1), as nothing rotated", x.count(1), 4);
        check.due("buffered(0)", x.buffered(0), 5);
        check.badState("start(0)", () -> x.start(NEW));
        check.badState("dump(2)", () -> x.dump(STOPPED));
    }

    private static void dumpOfNoRecording() {
        check.in("promise 14: IllegalArgumentException if there is no such recording");
        EventRecorder x = inEveryState();
        for (int recording : noRecording()) {
            check.badArgument("dump(" + recording + ")", () -> x.dump(recording));
        }
        check.due("count(1), as nothing rotated", x.count(1), 4);
    }

    private static void dumpOfANewOrClosedOne() {
        check.in("promise 14: IllegalStateException if it is new or closed");
        EventRecorder x = inEveryState();
        Check.event(x, 0, 0);
        x.dump(RUNNING);
        Check.event(x, 0, 0);
        check.badState("dump(0)", () -> x.dump(NEW));
        check.badState("dump(3)", () -> x.dump(CLOSED));
        check.due("count(1), as nothing rotated", x.count(1), 5);
        check.due("buffered(0)", x.buffered(0), 5);
        check.output(x, 70, 4, 0, 1, 4, 0, 0, 0, 0, 0, 0);
    }

    private static void dumpOfOneThatRuns() {
        check.in("promise 14: if the recording runs, the open chunk rotates");
        EventRecorder x = inEveryState();
        check.due("dump(1) of an empty chunk", x.dump(RUNNING), 0);
        check.due("count(1)", x.count(1), 5);
        check.due("count(3)", x.count(3), 0);
        Check.event(x, 0, 0);
        check.due("dump(1)", x.dump(RUNNING), 11);
        check.due("count(1)", x.count(1), 6);
        check.due("buffered(0)", x.buffered(0), 0);
        check.due("state(1)", x.state(RUNNING), RUNNING);
        check.due("dump(1) with nothing new", x.dump(RUNNING), 11);
        check.due("count(1)", x.count(1), 7);
        check.due("count(3)", x.count(3), 1);
    }

    private static void dumpOfAStoppedOne() {
        check.in("promise 14: a stopped one rotates nothing");
        EventRecorder x = inEveryState();
        Check.event(x, 0, 0);
        check.due("dump(2)", x.dump(STOPPED), 0);
        check.due("count(1)", x.count(1), 4);
        check.due("buffered(0)", x.buffered(0), 5);
        check.due("count(3)", x.count(3), 0);
    }

    private static void dumpFromItsFirstChunk() {
        check.in("promise 14: the kept chunks from the one with which it began on");
        EventRecorder x = inEveryState();
        Check.event(x, 0, 0, 1);
        x.start(NEW);
        Check.event(x, 0, 0, 2);
        check.due("dump(0), from its first chunk on", x.dump(NEW), 11);
        check.output(x, 70, 5, 0, 1, 4, 0, 0, 0, 4, 0, 0);
        check.due("dump(1), from the one before", x.dump(RUNNING), 22);
        check.output(x, 70, 4, 0, 1, 4, 0, 0, 0, 2, 0, 0, 70, 5, 0, 1, 4, 0, 0, 0, 4, 0, 0);
    }

    private static void dumpUpToItsLastChunk() {
        check.in("promise 14: up to the one with which it ended, if it is stopped");
        EventRecorder x = inEveryState();
        x.start(NEW);
        Check.event(x, 0, 0, 1);
        x.dump(RUNNING);
        Check.event(x, 0, 0, 2);
        check.due("stop(0)", x.stop(NEW), 6);
        Check.event(x, 0, 0, 3);
        check.due("dump(1)", x.dump(RUNNING), 33);
        check.due("dump(0)", x.dump(NEW), 22);
        check.output(x, 70, 5, 0, 1, 4, 0, 0, 0, 2, 0, 0, 70, 6, 0, 1, 4, 0, 0, 0, 4, 0, 0);
    }

    private static void dumpOfNoChunks() {
        check.in("promise 14: no chunks are no bytes, and output() shows none from then on");
        EventRecorder x = inEveryState();
        Check.event(x, 0, 0);
        check.due("dump(1)", x.dump(RUNNING), 11);
        check.due("output(0)", x.output(0), 70);
        check.due("dump(2), whose chunks were empty", x.dump(STOPPED), 0);
        check.output(x);
        check.due("dump(1)", x.dump(RUNNING), 11);
        check.due("output(10)", x.output(10), 0);
    }

    private static void dumpOfEvictedChunks() {
        check.in("promise 14: the chunks that are evicted are not written out");
        EventRecorder x = Check.running(16, 1, 2);
        Check.event(x, 0, 1, 1);
        x.dump(0);
        Check.event(x, 0, 1, 2);
        x.stop(0);
        check.due("dump(0)", x.dump(0), 22);
        x.start(x.record());
        for (int left = 1; left >= 0; left--) {
            Check.event(x, 0, 1, 3);
            x.dump(1);
            check.due("dump(0) when " + left + " is left", x.dump(0), 11 * left);
        }
        check.due("count(4)", x.count(4), 2);
        check.due("state(0)", x.state(0), STOPPED);
    }

    private static void outputOutside() {
        check.in("promise 15: NONE if there is no such byte");
        EventRecorder x = inEveryState();
        for (int k : new int[] {LOW, -1, 0, 1, HIGH}) {
            check.due("output(" + k + ") before a dump", x.output(k), NONE);
        }
        Check.event(x, 0, 0, -100);
        check.due("dump(1)", x.dump(RUNNING), 12);
        check.due("output(0), the first", x.output(0), 70);
        check.due("output(8), with its highest bit", x.output(8), 199);
        check.due("output(11), the last", x.output(11), 0);
        for (int k : new int[] {LOW, -1, 12, 13, HIGH}) {
            check.due("output(" + k + ")", x.output(k), NONE);
        }
    }

    private static void outputOfTheLatest() {
        check.in("promise 15: of what was written out latest");
        EventRecorder x = inEveryState();
        Check.event(x, 0, 0, 1);
        x.dump(RUNNING);
        Check.event(x, 0, 0, 2);
        x.dump(RUNNING);
        check.output(x, 70, 4, 0, 1, 4, 0, 0, 0, 2, 0, 0, 70, 5, 0, 1, 4, 0, 0, 0, 4, 0, 0);
        x.start(NEW);
        Check.event(x, 0, 0, 3);
        check.due("output(21), before the next dump", x.output(21), 0);
        check.due("dump(0), which is shorter", x.dump(NEW), 11);
        check.output(x, 70, 7, 0, 1, 4, 0, 0, 0, 6, 0, 0);
        x.close(NEW);
        x.close(RUNNING);
        check.output(x, 70, 7, 0, 1, 4, 0, 0, 0, 6, 0, 0);
    }

    private static void stateOfNoRecording() {
        check.in("promise 16: NONE if there is no such one");
        EventRecorder x = inEveryState();
        for (int recording : noRecording()) {
            check.due("state(" + recording + ")", x.state(recording), NONE);
        }
        EventRecorder y = new EventRecorder(16, 1, 1);
        for (int made = 0; made <= 4; made++) {
            for (int recording = 0; recording <= 4; recording++) {
                check.due("state(" + recording + ") of " + made, y.state(recording), recording < made ? NEW : NONE);
            }
            if (made < 4) {
                y.record();
            }
        }
    }

    private static void statesInTheirOrder() {
        check.in("promise 16: new (0), running (1), stopped (2), closed (3)");
        EventRecorder x = inEveryState();
        for (int recording = NEW; recording <= CLOSED; recording++) {
            check.due("state(" + recording + ")", x.state(recording), recording);
        }
        x.start(NEW);
        check.due("state(0)", x.state(NEW), RUNNING);
        x.stop(NEW);
        check.due("state(0)", x.state(NEW), STOPPED);
        x.close(NEW);
        check.due("state(0)", x.state(NEW), CLOSED);
    }

    private static void thresholdOfNoRecording() {
        check.in("promise 17: NONE if there is no such recording");
        EventRecorder x = inEveryState();
        for (int recording : noRecording()) {
            check.due("threshold(" + recording + ", 0)", x.threshold(recording, 0), NONE);
        }
        thresholds(x, 0, 0, 0, 0);
    }

    private static void thresholdOfNoType() {
        check.in("promise 17: NONE if there is no such type");
        EventRecorder x = new EventRecorder(16, 1, 1);
        x.record();
        for (int declared = 0; declared <= 6; declared++) {
            for (int type : new int[] {LOW, -1, declared, 6, 7, HIGH}) {
                check.due("threshold(0, " + type + ") of " + declared, x.threshold(0, type), NONE);
            }
            check.due("threshold(0, " + (declared - 1) + ")", x.threshold(0, declared - 1), declared == 0 ? NONE : 0);
            if (declared < 6) {
                x.type(0, false);
            }
        }
    }

    private static void thresholdWhenItIsOff() {
        check.in("promise 17: NONE if it is off");
        EventRecorder x = inEveryState();
        Check.settings(x, 0, "0-");
        thresholds(x, NONE, 0, 0, 0);
        Check.settings(x, 0, "0-999");
        thresholds(x, NONE, 0, 0, 0);
        Check.settings(x, 0, "0+");
        thresholds(x, 999, 0, 0, 0);
    }

    private static void thresholdOfAClosedOne() {
        check.in("promise 17: a closed one is still there (the document names no other answer)");
        EventRecorder x = inEveryState();
        Check.settings(x, NEW, "0+12");
        x.close(NEW);
        Check.settings(x, STOPPED, "0-");
        x.close(STOPPED);
        thresholds(x, 12, 0, NONE, 0);
    }
}
