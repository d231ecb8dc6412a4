/** The edges that the document's terms name: one test for each sentence, in the document's order. */
public final class TermsEdgeTest {
    private static final int NONE = EventRecorder.NONE;
    private static final int LOW = Integer.MIN_VALUE;
    private static final int HIGH = Integer.MAX_VALUE;
    private static final Check check = new Check();

    public static void main(String[] args) {
        usedFor512Calls();
        threadsAreThree();
        threeBegunTicks();
        bufferOfSizeBytes();
        sixTypes();
        noneToThreeInts();
        fortyCharacters();
        codesOfTheText();
        textAtFirstNone();
        takenWhateverIsAnswered();
        takenWhateverIsThrown();
        variableFormOfInts();
        variableFormOfTicks();
        variableFormOfDurations();
        zigzagWraps();
        twentyFourStrings();
        stringsOfNoneToEightCharacters();
        noTwoStringsAreTheSame();
        shortestAndLongestEvent();
        fullBuffersInTheirOrder();
        poolOfNone();
        keptAtMost();
        chunkNumbers();
        tickOfAChunk();
        usedSinceItWasOpened();
        fourRecordings();
        onAndNoThresholdAtFirst();
        chunkOfBeginAndEnd();
        oneOrMoreItems();
        numberOfADeclaredType();
        oneToThreeDigits();
        fromTheLeftToTheRight();
        rotationMovesAllBytes();
        rotationPutsLosses();
        lossesInVariableForm();
        rotationKeeps();
        rotationEvictsTheOldest();
        rotationOpensFromNowOn();
        eventsOfAWrittenChunk();
        stringsOfAWrittenChunk();
        fullestChunkWrittenOut();
        answerToWhatIsNotThere();
        check.end();
    }

    private static void usedFor512Calls() {
        check.in("an object is used for at most 512 calls");
        EventRecorder x = new EventRecorder(16, 0, 1);
        x.type(0, false);
        x.start(x.record());
        x.begin(0);
        for (int k = 5; k <= 510; k++) {
            x.advance(1000);
        }
        check.due("call 511, commit of the longest duration", x.commit(0, 0, 0, 0, 0), 0);
        check.due("call 512, dump(0)", x.dump(0), 4 + 6 + 2);
        EventRecorder y = new EventRecorder(16, 0, 1);
        for (int k = 1; k <= 512; k++) {
            check.due("advance(1000), call " + k, y.advance(1000), 1000 * k);
        }
    }

    private static void threadsAreThree() {
        check.in("terms: threads are 0, 1, 2");
        EventRecorder x = Check.running(16, 0, 1);
        for (int thread : new int[] {LOW, -1, 3, HIGH}) {
            check.no("begin(" + thread + ")", x.begin(thread));
            check.due("commit of thread " + thread, x.commit(thread, 0, 0, 0, 0), NONE);
            check.due("buffered(" + thread + ")", x.buffered(thread), NONE);
            check.due("lost(" + thread + ")", x.lost(thread), NONE);
        }
        for (int thread = 0; thread < 3; thread++) {
            check.yes("begin(" + thread + ")", x.begin(thread));
            check.due("commit of thread " + thread, x.commit(thread, 0, 0, 0, 0), 0);
            check.due("buffered(" + thread + ")", x.buffered(thread), 4);
            check.due("lost(" + thread + ")", x.lost(thread), 0);
        }
    }

    private static void threeBegunTicks() {
        check.in("terms: at most 3 begun ticks");
        EventRecorder x = Check.running(60, 0, 1);
        for (int k = 0; k < 3; k++) {
            check.yes("begin(0) with " + k, x.begin(0));
            x.advance(10);
        }
        check.no("begin(0) with 3", x.begin(0));
        check.due("commit of the latest", x.commit(0, 0, 0, 0, 0), 0);
        check.yes("begin(0) with 2 again", x.begin(0));
        check.no("begin(0) with 3 again", x.begin(0));
        x.advance(1);
        check.due("commit of the one begun last", x.commit(0, 0, 0, 0, 0), 0);
        check.due("commit of the second", x.commit(0, 0, 0, 0, 0), 0);
        check.due("commit of the first", x.commit(0, 0, 0, 0, 0), 0);
        check.due("commit of none", x.commit(0, 0, 0, 0, 0), 1);
        x.dump(0);
        check.output(x, 70, 2, 0, 4, 3, 0, 20, 10, 3, 0, 30, 1, 3, 0, 10, 21, 3, 0, 0, 31, 0, 0);
    }

    private static void bufferOfSizeBytes() {
        check.in("terms: a buffer of SIZE bytes");
        EventRecorder x = Check.running(20, 0, 1);
        for (int k = 1; k <= 5; k++) {
            check.due("event " + k + " of 4 bytes", Check.event(x, 1, 0), 0);
            check.due("buffered(1)", x.buffered(1), 4 * k);
        }
        check.due("one more", Check.event(x, 1, 0), 4);
        check.due("buffered(1), full to the last byte", x.buffered(1), 20);
        check.due("an event of another thread", Check.event(x, 2, 0), 0);
    }

    private static void sixTypes() {
        check.in("terms: at most 6 types");
        EventRecorder x = new EventRecorder(60, 0, 1);
        x.start(x.record());
        for (int k = 0; k < 6; k++) {
            check.due("commit of type " + k + " before it is declared", x.commit(0, k, 0, 0, 0), NONE);
            check.due("type()", x.type(0, false), k);
            check.due("commit of type " + k, Check.event(x, 0, k), 0);
        }
        check.badState("type() a seventh time", () -> x.type(0, false));
        check.due("commit of type 6", Check.event(x, 0, 6), NONE);
        check.due("threshold(0, 5)", x.threshold(0, 5), 0);
        check.due("threshold(0, 6)", x.threshold(0, 6), NONE);
    }

    private static void noneToThreeInts() {
        check.in("terms: 0 .. 3 ints and a string or none");
        for (int ints = 0; ints <= 3; ints++) {
            for (int string = 0; string <= 1; string++) {
                EventRecorder x = new EventRecorder(16, 0, 1);
                check.due("type(" + ints + ")", x.type(ints, string == 1), 0);
                x.start(x.record());
                check.due("an event", Check.event(x, 0, 0, 1, 2, 3), 0);
                check.due("buffered(0)", x.buffered(0), 4 + ints + string);
                x.dump(0);
                check.outputFrom(x, 4, 3 + ints + string, 0, 0, 0);
                for (int k = 0; k < ints; k++) {
                    check.due("int " + k, x.output(8 + k), 2 * (k + 1));
                }
            }
        }
        EventRecorder x = new EventRecorder(16, 0, 1);
        check.badArgument("type(-1)", () -> x.type(-1, false));
        check.badArgument("type(4)", () -> x.type(4, false));
    }

    private static void fortyCharacters() {
        check.in("terms: the text is at most 40 characters");
        EventRecorder x = new EventRecorder(16, 0, 1);
        for (int k = 1; k <= 39; k++) {
            check.yes("character " + k, x.write('|'));
        }
        check.yes("character 40", x.write('|'));
        check.no("character 41", x.write('|'));
        check.due("profile() of 40", x.profile(), 41);
    }

    private static void codesOfTheText() {
        check.in("terms: characters with codes 32 .. 126");
        EventRecorder x = Check.withStrings(16, 0, 1);
        check.no("code 31", x.write((char) 31));
        check.yes("code 32", x.write((char) 32));
        check.no("code 127", x.write((char) 127));
        check.yes("code 126", x.write((char) 126));
        check.no("code 128 + 65, which would be a letter in seven bits", x.write((char) 193));
        check.no("code 256 + 65, which would be a letter in eight bits", x.write((char) 321));
        check.no("code 0", x.write((char) 0));
        check.no("code 65535", x.write((char) 65535));
        Check.event(x, 0, 0);
        x.dump(0);
        check.output(x, 70, 2, 0, 1, 4, 0, 0, 0, 0, 0, 1, 0, 2, 32, 126);
    }

    private static void textAtFirstNone() {
        check.in("terms: the text is at first none");
        EventRecorder x = Check.withStrings(16, 0, 1);
        Check.event(x, 0, 0);
        x.dump(0);
        check.output(x, 70, 2, 0, 1, 4, 0, 0, 0, 0, 0, 1, 0, 0);
        EventRecorder y = Check.withStrings(16, 0, 1);
        check.badArgument("settings(0)", () -> y.settings(0));
        check.due("profile()", new EventRecorder(16, 0, 1).profile(), 1);
    }

    private static void takenWhateverIsAnswered() {
        check.in("terms: the text is empty then, whatever the call answers");
        EventRecorder x = Check.withStrings(16, 0, 1);
        Check.text(x, "text");
        check.due("commit", Check.event(x, 0, 0), 0);
        check.noText("0", x, 0);
        Check.text(x, "text");
        check.due("commit with none begun", x.commit(0, 0, 0, 0, 0), 1);
        check.noText("1", x, 0);
        Check.settings(x, 0, "0-");
        Check.text(x, "text");
        check.due("commit when it is off", Check.event(x, 0, 0), 2);
        check.noText("2", x, 0);
        Check.settings(x, 0, "0+1");
        Check.text(x, "text");
        check.due("commit below the threshold", Check.event(x, 0, 0), 3);
        check.noText("3", x, 0);
        Check.text(x, "text");
        check.due("commit that is lost", Check.bigEvent(x, 0, 1), 4);
        check.noText("4", x, 0);
        Check.text(x, "0+,1-");
        check.due("settings(0)", x.settings(0), 2);
        check.noText("settings(0)", x, 0);
        check.due("profile() of a bad part", Check.profile(x, "text"), 1);
        check.noText("profile() of a bad part", x, 0);
        check.due("profile() of a good part", Check.profile(x, "0:1+"), 10);
        check.noText("profile() of a good part", x, 0);
    }

    private static void takenWhateverIsThrown() {
        check.in("terms: the text is empty then, whatever the call throws");
        EventRecorder x = Check.withStrings(16, 0, 1);
        x.close(x.record());
        Check.text(x, "0+5");
        check.badArgument("settings(2), which is not there", () -> x.settings(2));
        check.noText("settings(2)", x, 0);
        Check.text(x, "0*5");
        check.badArgument("settings(0) of what is none", () -> x.settings(0));
        check.noText("settings(0)", x, 0);
        Check.text(x, "0+5");
        check.badState("settings(1), which is closed", () -> x.settings(1));
        check.noText("settings(1)", x, 0);
        check.due("threshold(0, 0)", x.threshold(0, 0), 0);
    }

    /** The bytes of an event of one int behind its type, tick and duration, which are 0. */
    private static void intAsBytes(int value, int... bytes) {
        EventRecorder x = new EventRecorder(16, 0, 1);
        x.type(1, false);
        x.start(x.record());
        check.due("an event with " + value, Check.event(x, 0, 0, value), 0);
        check.due("buffered(0) with " + value, x.buffered(0), 4 + bytes.length);
        x.dump(0);
        check.due("how many bytes follow with " + value, x.output(4), 3 + bytes.length);
        check.outputFrom(x, 8, bytes);
    }

    private static void variableFormOfInts() {
        check.in("terms: variable form, 128 is added if the bits above are not all 0");
        intAsBytes(0, 0);
        intAsBytes(-64, 127);
        intAsBytes(64, 128, 1);
        intAsBytes(-65, 129, 1);
        intAsBytes(-8192, 255, 127);
        intAsBytes(8192, 128, 128, 1);
        intAsBytes(-1048576, 255, 255, 127);
        intAsBytes(1048576, 128, 128, 128, 1);
        intAsBytes(-134217728, 255, 255, 255, 127);
        intAsBytes(134217728, 128, 128, 128, 128, 1);
    }

    private static void variableFormOfTicks() {
        check.in("terms: the tick when it was begun, in variable form");
        int[][] bytes = {{0, 0}, {127, 127}, {128, 128, 1}, {16383, 255, 127}, {16384, 128, 128, 1}};
        for (int[] row : bytes) {
            EventRecorder x = Check.running(16, 0, 1);
            Check.ticks(x, row[0] / 1000);
            x.advance(row[0] % 1000);
            Check.event(x, 0, 0);
            check.due("buffered(0) at tick " + row[0], x.buffered(0), 3 + row.length - 1);
            x.dump(0);
            check.outputFrom(x, 4, 2 + row.length - 1, 0);
            for (int k = 1; k < row.length; k++) {
                check.due("byte " + k + " of tick " + row[0], x.output(5 + k), row[k]);
            }
            check.due("duration at tick " + row[0], x.output(5 + row.length), 0);
        }
    }

    private static void variableFormOfDurations() {
        check.in("terms: the duration, in variable form");
        int[][] bytes = {{0, 0}, {1, 1}, {127, 127}, {128, 128, 1}, {16383, 255, 127}, {16384, 128, 128, 1}};
        for (int[] row : bytes) {
            EventRecorder x = Check.running(16, 0, 1);
            x.advance(5);
            x.begin(0);
            Check.ticks(x, row[0] / 1000);
            x.advance(row[0] % 1000);
            x.commit(0, 0, 0, 0, 0);
            x.dump(0);
            check.outputFrom(x, 4, 2 + row.length - 1, 0, 5);
            for (int k = 1; k < row.length; k++) {
                check.due("byte " + k + " of duration " + row[0], x.output(6 + k), row[k]);
            }
        }
    }

    private static void zigzagWraps() {
        check.in("terms: zigzag, both wrap");
        intAsBytes(1, 2);
        intAsBytes(-1, 1);
        intAsBytes((1 << 30) - 1, 254, 255, 255, 255, 7);
        intAsBytes(-(1 << 30), 255, 255, 255, 255, 7);
        intAsBytes(1 << 30, 128, 128, 128, 128, 8);
        intAsBytes(-(1 << 30) - 1, 129, 128, 128, 128, 8);
        intAsBytes(HIGH, 254, 255, 255, 255, 15);
        intAsBytes(LOW + 1, 253, 255, 255, 255, 15);
        intAsBytes(LOW, 255, 255, 255, 255, 15);
    }

    private static void twentyFourStrings() {
        check.in("terms: at most 24 strings");
        EventRecorder x = Check.withStrings(60, 4, 1);
        for (int k = 0; k < 24; k++) {
            check.due("string " + k, Check.eventWith(x, 0, 0, "" + (char) (97 + k)), 0);
            check.due("count(5)", x.count(5), k + 1);
        }
        check.due("string 24", Check.eventWith(x, 0, 0, "y"), 4);
        check.due("count(5)", x.count(5), 24);
        check.due("string 0 again", Check.eventWith(x, 0, 0, "a"), 0);
        check.due("string 23 again", Check.eventWith(x, 0, 0, "x"), 0);
    }

    private static void stringsOfNoneToEightCharacters() {
        check.in("terms: strings have 0 .. 8 characters");
        String text = "123456789 123456789 123456789 123456789 ";
        int[][] lengths = {{0, 0}, {1, 1}, {7, 7}, {8, 8}, {9, 8}, {40, 8}};
        for (int[] pair : lengths) {
            EventRecorder x = Check.withStrings(16, 0, 1);
            Check.eventWith(x, 0, 0, text.substring(0, pair[0]));
            check.due("dump(0) with " + pair[0] + " characters", x.dump(0), 4 + 5 + 2 + 2 + pair[1]);
            check.due("length of a string of " + pair[0], x.output(12), pair[1]);
            for (int k = 0; k < pair[1]; k++) {
                check.due("character " + k + " of " + pair[0], x.output(13 + k), text.charAt(k));
            }
        }
    }

    private static void noTwoStringsAreTheSame() {
        check.in("terms: no two strings are the same");
        EventRecorder x = Check.withStrings(60, 4, 1);
        Check.eventWith(x, 0, 0, "12345678");
        Check.eventWith(x, 1, 1, "12345678");
        check.due("count(5) with the same of another thread and type", x.count(5), 1);
        Check.eventWith(x, 0, 0, "123456789");
        check.due("count(5) with the same first 8", x.count(5), 1);
        Check.eventWith(x, 0, 0, "1234567");
        check.due("count(5) with a shorter one", x.count(5), 2);
        Check.eventWith(x, 0, 0, "1234567 ");
        check.due("count(5) with a blank behind it", x.count(5), 3);
        Check.eventWith(x, 0, 0, "");
        Check.eventWith(x, 0, 0, "");
        check.due("count(5) with an empty one twice", x.count(5), 4);
        x.dump(0);
        Check.eventWith(x, 0, 0, "12345678");
        check.due("count(5) with the same in another chunk", x.count(5), 4);
    }

    private static void shortestAndLongestEvent() {
        check.in("terms: an event is a row of bytes");
        EventRecorder x = Check.running(16, 0, 1);
        Check.event(x, 0, 0);
        x.dump(0);
        check.output(x, 70, 2, 0, 1, 3, 0, 0, 0, 0, 0);
        EventRecorder y = new EventRecorder(60, 0, 1);
        for (int k = 0; k < 6; k++) {
            y.type(3, true);
        }
        y.start(y.record());
        Check.ticks(y, 17);
        y.begin(2);
        Check.ticks(y, 17);
        check.due("commit", y.commit(2, 5, LOW, HIGH, LOW), 0);
        check.due("buffered(2)", y.buffered(2), 24);
        y.dump(0);
        check.output(y, 70, 2, 0, 1, 23, 5, 232, 132, 1, 232, 132, 1, 255, 255, 255, 255, 15,
            254, 255, 255, 255, 15, 255, 255, 255, 255, 15, 0, 0, 1, 0, 0);
    }

    /** Events of one int that fill the buffer of size 16 but for its last byte. */
    private static void fill(EventRecorder x, int thread, int value) {
        for (int k = 0; k < 3; k++) {
            check.due("an event", Check.event(x, thread, 1, value), 0);
        }
    }

    private static void fullBuffersInTheirOrder() {
        check.in("terms: the full buffers stand in the order in which they became full");
        EventRecorder x = Check.running(16, 2, 1);
        fill(x, 2, 1);
        fill(x, 0, 2);
        fill(x, 0, 3);
        fill(x, 2, 4);
        check.due("count(0)", x.count(0), 2);
        check.due("flush() of thread 0's", x.flush(), 15);
        // The pool's buffers are used again in turn, and their order must hold round its end.
        fill(x, 0, 5);
        check.due("count(0)", x.count(0), 2);
        check.due("flush() of thread 2's", x.flush(), 15);
        fill(x, 2, 6);
        check.due("count(0)", x.count(0), 2);
        check.due("dump(0)", x.dump(0), 4 + 90 + 2);
        int[] values = {2, 1, 3, 4, 5, 6};
        for (int k = 0; k < 18; k++) {
            check.outputFrom(x, 4 + 5 * k, 4, 1, 0, 0, 2 * values[k / 3]);
        }
    }

    private static void poolOfNone() {
        check.in("terms: POOL shared buffers, when POOL is 0");
        EventRecorder x = Check.running(16, 0, 1);
        fill(x, 0, 1);
        check.due("an event that needs a shared buffer", Check.event(x, 0, 1), 4);
        check.due("count(0)", x.count(0), 0);
        check.due("flush()", x.flush(), 0);
        check.due("buffered(0)", x.buffered(0), 15);
        x.dump(0);
        check.due("buffered(0) after a rotation", x.buffered(0), 0);
        fill(x, 0, 1);
    }

    private static void keptAtMost() {
        check.in("terms: finished chunks, of which at most KEPT are kept");
        EventRecorder x = Check.running(16, 0, 3);
        for (int k = 1; k <= 3; k++) {
            Check.event(x, 0, 0);
            check.due("dump(0)", x.dump(0), 10 * k);
            check.due("count(3)", x.count(3), k);
            check.due("count(4)", x.count(4), 0);
        }
        Check.event(x, 0, 0);
        check.due("dump(0) with one more", x.dump(0), 30);
        check.due("count(3)", x.count(3), 3);
        check.due("count(4)", x.count(4), 1);
    }

    private static void chunkNumbers() {
        check.in("terms: the first chunk's number is 1, then always 1 more than the open one before");
        EventRecorder x = Check.running(16, 0, 1);
        check.due("count(1)", x.count(1), 2);
        for (int k = 3; k <= 127; k++) {
            x.dump(0);
            check.due("count(1), also when none is kept", x.count(1), k);
        }
        check.due("count(3)", x.count(3), 0);
        Check.event(x, 0, 0);
        x.dump(0);
        check.output(x, 70, 127, 0, 1, 3, 0, 0, 0, 0, 0);
        Check.event(x, 0, 0);
        x.dump(0);
        check.output(x, 70, 128, 1, 0, 1, 3, 0, 0, 0, 0, 0);
    }

    private static void tickOfAChunk() {
        check.in("terms: the tick when a chunk was opened");
        int[][] bytes = {{0, 0}, {127, 127}, {128, 128, 1}, {1000, 232, 7}};
        for (int[] row : bytes) {
            EventRecorder x = new EventRecorder(16, 0, 1);
            x.type(0, false);
            x.record();
            x.advance(row[0]);
            x.start(0);
            x.advance(3);
            Check.event(x, 0, 0);
            x.advance(4);
            x.dump(0);
            for (int k = 1; k < row.length; k++) {
                check.due("byte " + k + " of the chunk's tick " + row[0], x.output(1 + k), row[k]);
            }
            check.due("how many events, at tick " + row[0], x.output(1 + row.length), 1);
        }
    }

    private static void usedSinceItWasOpened() {
        check.in("terms: a string is used if an event with it was committed since the chunk was opened");
        EventRecorder x = Check.withStrings(16, 0, 1);
        Check.eventWith(x, 0, 0, "a");
        x.dump(0);
        check.output(x, 70, 2, 0, 1, 4, 0, 0, 0, 0, 0, 1, 0, 1, 'a');
        Check.event(x, 0, 2);
        x.dump(0);
        check.output(x, 70, 3, 0, 1, 3, 2, 0, 0, 0, 0);
        Check.eventWith(x, 0, 0, "b");
        x.dump(0);
        check.output(x, 70, 4, 0, 1, 4, 0, 0, 0, 1, 0, 1, 1, 1, 'b');
        Check.eventWith(x, 0, 0, "a");
        Check.eventWith(x, 1, 0, "a");
        x.dump(0);
        check.output(x, 70, 5, 0, 2, 4, 0, 0, 0, 0, 4, 0, 0, 0, 0, 0, 1, 0, 1, 'a');
    }

    private static void fourRecordings() {
        check.in("terms: at most 4 recordings");
        EventRecorder x = new EventRecorder(16, 0, 1);
        for (int k = 0; k < 4; k++) {
            check.due("record()", x.record(), k);
        }
        check.badState("record() a fifth time", x::record);
        for (int k = 0; k < 4; k++) {
            x.start(k);
            x.close(k);
        }
        check.badState("record() when all are closed", x::record);
        check.due("state(3)", x.state(3), 3);
        check.due("state(4)", x.state(4), NONE);
    }

    private static void onAndNoThresholdAtFirst() {
        check.in("terms: on is at first yes, the threshold at first 0");
        EventRecorder x = new EventRecorder(16, 0, 1);
        x.type(0, false);
        x.record();
        check.due("threshold of a type declared before", x.threshold(0, 0), 0);
        check.due("threshold of one not declared yet", x.threshold(0, 1), NONE);
        x.start(0);
        x.type(0, false);
        check.due("threshold of a type declared after", x.threshold(0, 1), 0);
        check.due("an event that takes no time", Check.event(x, 0, 1), 0);
    }

    private static void chunkOfBeginAndEnd() {
        check.in("terms: the chunk with which a recording began, and the one with which it ended");
        EventRecorder x = new EventRecorder(16, 0, 5);
        x.type(1, false);
        x.record();
        x.record();
        x.start(0);
        Check.event(x, 0, 0, 1);
        check.due("start(1)", x.start(1), 3);
        Check.event(x, 0, 0, 2);
        check.due("stop(1), which began with this chunk too", x.stop(1), 3);
        Check.event(x, 0, 0, 3);
        x.stop(0);
        check.due("dump(1)", x.dump(1), 11);
        check.output(x, 70, 3, 0, 1, 4, 0, 0, 0, 4, 0, 0);
        check.due("dump(0)", x.dump(0), 33);
    }

    private static void refusedSettings(EventRecorder x, String text) {
        Check.text(x, text);
        check.badArgument("settings of '" + text + "'", () -> x.settings(0));
    }

    private static void oneOrMoreItems() {
        check.in("terms: settings are one or more items with , between them");
        EventRecorder x = Check.running(16, 0, 1);
        for (String none : new String[] {"", ",", "0+,", ",0+", "0+,,1+", "0+;1+", "0+1+", "0+ ,1+"}) {
            refusedSettings(x, none);
        }
        check.due("one item", Check.settings(x, 0, "0+"), 1);
        check.due("two items", Check.settings(x, 0, "0+,1-"), 2);
        check.due("13 items, all 40 characters", Check.settings(x, 0, "3-,3-,3-,3-,3-,3-,3-,3-,3-,3-,3-,3-,3+40"), 13);
        check.due("threshold(0, 3)", x.threshold(0, 3), 40);
        check.due("7 items, all 40 characters", Check.settings(x, 0, "0+100,0+101,0+102,0+103,0+104,0+105,0+10"), 7);
        check.due("threshold(0, 0)", x.threshold(0, 0), 10);
        refusedSettings(x, "0+200,0+201,0+202,0+203,0+204,0+205,2-1,");
        check.due("threshold(0, 0) when the last of 40 is a comma", x.threshold(0, 0), 10);
    }

    private static void numberOfADeclaredType() {
        check.in("terms: the number of a declared type (a digit), + or -");
        EventRecorder x = new EventRecorder(16, 0, 1);
        x.record();
        for (int declared = 0; declared <= 6; declared++) {
            for (int type = 0; type <= 9; type++) {
                String item = type + "+";
                if (type < declared) {
                    check.due("settings of " + item + " with " + declared, Check.settings(x, 0, item), 1);
                } else {
                    refusedSettings(x, item);
                }
            }
            if (declared < 6) {
                x.type(0, false);
            }
        }
        for (String item : new String[] {"00+", "01-", "+", "-", "0", "0*", "/+", ":+", "0,", "0.", "0+-", "-0+", "a+"}) {
            refusedSettings(x, item);
        }
        check.due("the last type off", Check.settings(x, 0, "5-"), 1);
        check.due("threshold(0, 5)", x.threshold(0, 5), NONE);
    }

    private static void oneToThreeDigits() {
        check.in("terms: perhaps a number of one to three digits");
        EventRecorder x = Check.running(16, 0, 1);
        String[] good = {"0+", "0+5", "0+", "0+42", "0+999", "0+000", "0+001", "0+0"};
        int[] thresholds = {0, 5, 5, 42, 999, 0, 1, 0};
        for (int k = 0; k < good.length; k++) {
            check.due("settings of " + good[k], Check.settings(x, 0, good[k]), 1);
            check.due("threshold(0, 0) after " + good[k], x.threshold(0, 0), thresholds[k]);
        }
        for (String bad : new String[] {"0+1000", "0+0000", "0+0001", "0-1234", "0+1a", "0+a", "0+1 ", "0+/", "0+:", "0+-1"}) {
            refusedSettings(x, bad);
            check.due("threshold(0, 0) after " + bad, x.threshold(0, 0), 0);
        }
    }

    private static void fromTheLeftToTheRight() {
        check.in("terms: from the left to the right");
        EventRecorder x = Check.running(16, 0, 1);
        check.due("settings", Check.settings(x, 0, "0+1,0+2,1+3,1-,2-,2+"), 6);
        check.due("the later threshold", x.threshold(0, 0), 2);
        check.due("on, then off", x.threshold(0, 1), NONE);
        check.due("off, then on", x.threshold(0, 2), 0);
        check.due("settings", Check.settings(x, 0, "1+,2-7,2+"), 3);
        check.due("on without a number", x.threshold(0, 1), 3);
        check.due("off with a number, then on", x.threshold(0, 2), 7);
        refusedSettings(x, "0+8,1-,9+");
        check.due("threshold(0, 0) when the last item is none", x.threshold(0, 0), 2);
        check.due("threshold(0, 1) when the last item is none", x.threshold(0, 1), 3);
    }

    private static void rotationMovesAllBytes() {
        check.in("to rotate: the full buffers, in their order, then the threads', the least first; all are empty then");
        EventRecorder x = Check.running(16, 3, 1);
        fill(x, 2, 1);
        fill(x, 2, 2);
        fill(x, 1, 3);
        fill(x, 1, 4);
        fill(x, 2, 5);
        Check.event(x, 0, 1, 6);
        check.due("count(0)", x.count(0), 3);
        check.due("flush()", x.flush(), 15);
        x.dump(0);
        check.due("count(0) after it", x.count(0), 0);
        check.due("count(2) after it", x.count(2), 0);
        for (int thread = 0; thread < 3; thread++) {
            check.due("buffered(" + thread + ") after it", x.buffered(thread), 0);
        }
        check.outputFrom(x, 0, 70, 2, 0, 16);
        int[] values = {1, 1, 1, 3, 3, 3, 2, 2, 2, 6, 4, 4, 4, 5, 5, 5};
        for (int k = 0; k < values.length; k++) {
            check.outputFrom(x, 4 + 5 * k, 4, 1, 0, 0, 2 * values[k]);
        }
        check.outputFrom(x, 84, 0, 0, NONE);
        check.due("dump(0) with nothing more", x.dump(0), 86);
    }

    private static void rotationPutsLosses() {
        check.in("to rotate: a loss for each thread, the least first, that has lost events since the chunk was opened");
        EventRecorder x = Check.running(16, 0, 1);
        Check.bigEvent(x, 2, 3);
        Check.bigEvent(x, 2, 3);
        Check.event(x, 2, 0);
        Check.bigEvent(x, 0, 3);
        x.dump(0);
        check.output(x, 70, 2, 0, 1, 3, 0, 0, 0, 3, 63, 0, 1, 3, 63, 2, 2, 0, 0);
        Check.bigEvent(x, 1, 3);
        Check.event(x, 0, 0);
        x.dump(0);
        check.output(x, 70, 3, 0, 1, 3, 0, 0, 0, 3, 63, 1, 1, 0, 0);
        Check.event(x, 0, 0);
        x.dump(0);
        check.output(x, 70, 4, 0, 1, 3, 0, 0, 0, 0, 0);
        for (int thread = 2; thread >= 0; thread--) {
            Check.bigEvent(x, thread, 3);
        }
        x.dump(0);
        check.output(x, 70, 5, 0, 0, 3, 63, 0, 1, 3, 63, 1, 1, 3, 63, 2, 1, 0, 0);
    }

    private static void lossesInVariableForm() {
        check.in("to rotate: how many were lost, in variable form");
        EventRecorder x = Check.running(16, 0, 1);
        for (int k = 0; k < 127; k++) {
            Check.bigEvent(x, 1, 3);
        }
        x.dump(0);
        check.output(x, 70, 2, 0, 0, 3, 63, 1, 127, 0, 0);
        EventRecorder y = Check.running(16, 0, 1);
        for (int k = 0; k < 128; k++) {
            Check.bigEvent(y, 1, 3);
        }
        y.dump(0);
        check.output(y, 70, 2, 0, 0, 4, 63, 1, 128, 1, 0, 0);
    }

    private static void rotationKeeps() {
        check.in("to rotate: the chunk is kept if it has bytes of events or losses");
        EventRecorder x = Check.running(16, 1, 5);
        x.dump(0);
        check.due("count(3) with neither", x.count(3), 0);
        Check.event(x, 0, 0);
        x.dump(0);
        check.due("count(3) with an event", x.count(3), 1);
        x.dump(0);
        check.due("count(3) with neither", x.count(3), 1);
        Check.bigEvent(x, 0, 3);
        x.dump(0);
        check.due("count(3) with a loss", x.count(3), 2);
        Check.settings(x, 0, "0-");
        Check.event(x, 0, 0);
        x.begin(0);
        x.dump(0);
        check.due("count(3) with what nobody wants", x.count(3), 2);
        check.due("count(4)", x.count(4), 0);
    }

    private static void rotationEvictsTheOldest() {
        check.in("to rotate: if more than KEPT are kept then, the oldest is evicted");
        EventRecorder x = Check.running(16, 0, 1);
        Check.event(x, 0, 1, 1);
        x.dump(0);
        x.dump(0);
        check.due("count(4) when KEPT are kept and nothing is new", x.count(4), 0);
        check.output(x, 70, 2, 0, 1, 4, 1, 0, 0, 2, 0, 0);
        Check.event(x, 0, 1, 2);
        x.dump(0);
        check.due("count(4)", x.count(4), 1);
        check.output(x, 70, 4, 0, 1, 4, 1, 0, 0, 4, 0, 0);
        EventRecorder y = Check.running(16, 0, 5);
        for (int k = 0; k < 7; k++) {
            Check.event(y, 0, 1, k);
            y.dump(0);
        }
        check.due("count(3)", y.count(3), 5);
        check.due("count(4)", y.count(4), 2);
        for (int k = 0; k < 5; k++) {
            check.outputFrom(y, 11 * k, 70, 4 + k, 0, 1, 4, 1, 0, 0, 2 * (2 + k), 0, 0);
        }
    }

    private static void rotationOpensFromNowOn() {
        check.in("to rotate: a new chunk is open from NOW on");
        EventRecorder x = Check.running(16, 0, 1);
        x.advance(7);
        x.dump(0);
        x.advance(2);
        Check.event(x, 0, 0);
        x.advance(2);
        x.dump(0);
        check.output(x, 70, 3, 7, 1, 3, 0, 9, 0, 0, 0);
        Check.event(x, 0, 0);
        x.dump(0);
        check.output(x, 70, 4, 11, 1, 3, 0, 11, 0, 0, 0);
    }

    /** So many events of 4 bytes in one chunk; the last of them are of threads 1 and 2. */
    private static EventRecorder withEvents(int many) {
        EventRecorder x = Check.running(60, 4, 1);
        Check.events(x, 0, 0, 75);
        check.due("flush()", x.flush(), 60);
        check.due("flush()", x.flush(), 60);
        Check.events(x, 0, 0, 30);
        Check.events(x, 1, 0, 15);
        Check.events(x, 2, 0, many - 120);
        check.due("dump(0) with " + many + " events", x.dump(0), 3 + (many < 128 ? 1 : 2) + 4 * many + 2);
        return x;
    }

    private static void eventsOfAWrittenChunk() {
        check.in("a chunk written out: how many events (not losses) it has");
        check.outputFrom(withEvents(127), 0, 70, 2, 0, 127, 3, 0, 0, 0);
        check.outputFrom(withEvents(128), 0, 70, 2, 0, 128, 1, 3, 0, 0, 0);
        EventRecorder x = Check.running(16, 0, 1);
        Check.bigEvent(x, 0, 3);
        x.dump(0);
        check.output(x, 70, 2, 0, 0, 3, 63, 0, 1, 0, 0);
    }

    private static void stringsOfAWrittenChunk() {
        check.in("a chunk written out: how many strings are used in it, and these by rising numbers");
        EventRecorder x = Check.withStrings(60, 2, 1);
        for (int k = 0; k < 24; k++) {
            Check.eventWith(x, k % 3, 0, "" + (char) (97 + k));
        }
        x.dump(0);
        for (int k = 23; k >= 0; k--) {
            Check.eventWith(x, k % 3, 0, "" + (char) (97 + k));
        }
        check.due("dump(0) with 24 strings", x.dump(0), 4 + 24 * 5 + 2 + 24 * 3);
        check.outputFrom(x, 124, 0, 24);
        for (int k = 0; k < 24; k++) {
            check.outputFrom(x, 126 + 3 * k, k, 1, 97 + k);
        }
        Check.event(x, 0, 2);
        x.dump(0);
        check.output(x, 70, 4, 0, 1, 3, 2, 0, 0, 0, 0);
        Check.eventWith(x, 0, 0, "x");
        Check.eventWith(x, 0, 0, "b");
        x.dump(0);
        check.output(x, 70, 5, 0, 2, 4, 0, 0, 0, 23, 4, 0, 0, 0, 1, 0, 2, 1, 1, 'b', 23, 1, 'x');
    }

    /** An event of 20 bytes, or of 10; one of the first 24 has a string of its own, with 8 characters. */
    private static void put(EventRecorder x, int thread, boolean big, int number) {
        Check.text(x, "abcdefg" + (char) (65 + number % 24));
        x.begin(thread);
        check.due("event " + number, x.commit(thread, 1, big ? HIGH : 8192, big ? HIGH : 0, big ? LOW : 0), 0);
    }

    private static void fullestChunkWrittenOut() {
        check.in("a chunk written out: one with all the bytes, losses and strings that it can have");
        EventRecorder x = Check.withStrings(60, 4, 1);
        int number = 0;
        for (; number < 9; number++) {
            put(x, 0, number % 3 < 2, number);
        }
        put(x, 0, true, number++);
        for (int k = 0; k < 3; k++) {
            check.due("flush()", x.flush(), 50);
        }
        for (; number < 24; number++) {
            put(x, 0, true, number);
        }
        for (int k = 0; k < 30; k++) {
            check.due("an event of 4 bytes", Check.event(x, 1 + k / 15, 2), 0);
        }
        for (int thread = 0; thread < 3; thread++) {
            check.due("one that is lost", Check.event(x, thread, 1, HIGH, HIGH, HIGH), 4);
        }
        int bytes = 150 + (4 + 3) * 60;
        check.due("dump(0)", x.dump(0), 4 + bytes + 3 * 4 + 2 + 24 * 10);
        check.outputFrom(x, 4 + bytes, 3, 63, 0, 1, 3, 63, 1, 1, 3, 63, 2, 1, 0, 24);
        for (int k = 0; k < 24; k++) {
            check.due("number " + k, x.output(18 + bytes + 10 * k), k);
            check.due("length " + k, x.output(19 + bytes + 10 * k), 8);
            check.due("last character " + k, x.output(27 + bytes + 10 * k), 65 + k);
        }
        check.due("the byte behind the last", x.output(18 + bytes + 240), NONE);
    }

    private static void answerToWhatIsNotThere() {
        check.in("terms: NONE is the answer to questions about what is not there");
        EventRecorder x = new EventRecorder(16, 0, 1);
        check.due("NONE", EventRecorder.NONE, -1);
        check.due("output(0)", x.output(0), -1);
        check.due("state(0)", x.state(0), -1);
        check.due("threshold(0, 0)", x.threshold(0, 0), -1);
        check.due("buffered(3)", x.buffered(3), -1);
        check.due("count(6)", x.count(6), -1);
        check.due("lost(3)", x.lost(3), -1);
        check.due("commit(0, 0)", x.commit(0, 0, 0, 0, 0), -1);
    }
}
