/** The edges that promises 1 to 7 and 18 to 20 name: one test for each sentence, in the document's order. */
public final class EventsEdgeTest {
    private static final int NONE = EventRecorder.NONE;
    private static final int LOW = Integer.MIN_VALUE;
    private static final int HIGH = Integer.MAX_VALUE;
    private static final Check check = new Check();

    public static void main(String[] args) {
        newSize();
        newPool();
        newKept();
        newHasNothing();
        newOpensChunkOne();
        writeWhenFortyAreThere();
        writeOfACodeOutside();
        advanceOutside();
        typeWithTooFewOrTooManyInts();
        typeWhenThereAreSix();
        typeWithBothFaults();
        beginOfNoThread();
        beginWhenItHasThree();
        commitEndsTheLatest();
        commitTakesTheTick();
        commitOfTheFirstInts();
        commitOfTheFirstEightCharacters();
        commitTakesTheText();
        commitOfNoThreadOrType();
        commitWhenNoneIsBegun();
        commitOnInNoRunningRecording();
        commitAtTheThreshold();
        commitAtTheLeastOfThresholds();
        commitAnswersTheEarliestReason();
        commitNumbersNoUnwantedString();
        commitWithJustRoomEnough();
        commitTakesASharedBuffer();
        lostForTheTwentyFifthString();
        lostForItsLength();
        lostForAFullPool();
        lostChangesNothingElse();
        lostStringGetsNoNumber();
        flushOfNone();
        flushOfTheFirst();
        flushUpTo150Bytes();
        flushOf151Bytes();
        flushThatRotatesTakesAll();
        bufferedOfNoThread();
        bufferedFromEmptyToFull();
        countOfAnotherWhat();
        countOfFullBuffers();
        countOfTheOpenChunksBytes();
        lostOfNoThread();
        lostInAllChunks();
        check.end();
    }

    /** Fills thread 0's buffer, which must have so many bytes, to the last one. */
    private static void fillToTheLastByte(EventRecorder x, int bytes, String made) {
        // Events of 4 and 5 bytes can fill every size of 12 bytes or more.
        int fives = bytes % 4;
        int fours = (bytes - 5 * fives) / 4;
        for (int k = 0; k < fives; k++) {
            check.due("an event of 5 bytes with " + made, Check.event(x, 0, 1), 0);
        }
        for (int k = 0; k < fours - 1; k++) {
            check.due("an event of 4 bytes with " + made, Check.event(x, 0, 0), 0);
        }
        check.due("one that is a byte too long with " + made, Check.event(x, 0, 1), 4);
        check.due("one that just fits with " + made, Check.event(x, 0, 0), 0);
        check.due("buffered(0) with " + made, x.buffered(0), bytes);
    }

    private static void newSize() {
        check.in("promise 1: SIZE is size, but 16 if that is less and 60 if that is more");
        int[][] sizes = {{LOW, 16}, {-1, 16}, {0, 16}, {15, 16}, {16, 16}, {17, 17}, {38, 38},
            {59, 59}, {60, 60}, {61, 60}, {HIGH, 60}};
        for (int[] pair : sizes) {
            fillToTheLastByte(Check.running(pair[0], 0, 1), pair[1], "size " + pair[0]);
        }
    }

    private static void newPool() {
        check.in("promise 1: POOL is pool, but 0 if that is less and 4 if that is more");
        int[][] pools = {{LOW, 0}, {-1, 0}, {0, 0}, {1, 1}, {2, 2}, {3, 3}, {4, 4}, {5, 4}, {HIGH, 4}};
        for (int[] pair : pools) {
            EventRecorder x = Check.running(16, pair[0], 1);
            for (int k = 0; k < 4 * (pair[1] + 1); k++) {
                check.due("an event with pool " + pair[0], Check.event(x, 0, 0), 0);
            }
            check.due("one more with pool " + pair[0], Check.event(x, 0, 0), 4);
            check.due("count(0) with pool " + pair[0], x.count(0), pair[1]);
        }
    }

    private static void newKept() {
        check.in("promise 1: KEPT is kept, but 1 if that is less and 5 if that is more");
        int[][] limits = {{LOW, 1}, {-1, 1}, {0, 1}, {1, 1}, {2, 2}, {3, 3}, {4, 4}, {5, 5}, {6, 5}, {HIGH, 5}};
        for (int[] pair : limits) {
            EventRecorder x = Check.running(16, 1, pair[0]);
            for (int k = 1; k <= 8; k++) {
                Check.event(x, 0, 0);
                x.dump(0);
                check.due("count(3) with kept " + pair[0], x.count(3), Math.min(k, pair[1]));
                check.due("count(4) with kept " + pair[0], x.count(4), Math.max(0, k - pair[1]));
            }
        }
    }

    private static void newHasNothing() {
        check.in("promise 1: no types, strings or recordings");
        EventRecorder x = new EventRecorder(16, 1, 1);
        x.begin(0);
        check.due("commit(0, 0)", x.commit(0, 0, 0, 0, 0), NONE);
        check.due("count(5)", x.count(5), 0);
        check.due("state(0)", x.state(0), NONE);
        check.badArgument("start(0)", () -> x.start(0));
        check.badArgument("stop(0)", () -> x.stop(0));
        check.badArgument("close(0)", () -> x.close(0) ? 1 : 0);
        check.badArgument("dump(0)", () -> x.dump(0));
        check.due("profile()", Check.profile(x, "0:0+"), 1);
        check.due("type()", x.type(0, false), 0);
        check.due("record()", x.record(), 0);
    }

    private static void newOpensChunkOne() {
        check.in("promise 1: chunk 1 is open from tick 0 on");
        EventRecorder x = new EventRecorder(16, 1, 1);
        check.due("advance(0)", x.advance(0), 0);
        check.due("count(1)", x.count(1), 1);
        check.due("count(2)", x.count(2), 0);
        check.due("count(3)", x.count(3), 0);
        x.record();
        check.due("start(0)", x.start(0), 2);
        check.due("count(3), as chunk 1 was empty", x.count(3), 0);
    }

    private static void writeWhenFortyAreThere() {
        check.in("promise 2: false if 40 are there");
        EventRecorder x = Check.running(16, 0, 1);
        Check.text(x, "0+,0+,0+,0+,0+,0+,0+,0+,0+,0+,0+,0+,0+1");
        check.yes("character 40", x.write('2'));
        check.no("character 41", x.write('3'));
        check.no("character 41 again", x.write('4'));
        check.due("settings(0)", x.settings(0), 13);
        check.due("threshold(0, 0)", x.threshold(0, 0), 12);
        check.yes("character 1", x.write('a'));
    }

    private static void writeOfACodeOutside() {
        check.in("promise 2: false if its code is not 32 .. 126");
        EventRecorder x = new EventRecorder(16, 0, 1);
        for (int code = 0; code < 32; code++) {
            check.no("code " + code, x.write((char) code));
        }
        for (int code = 127; code < 260; code++) {
            check.no("code " + code, x.write((char) code));
        }
        check.no("code 65535", x.write((char) 65535));
        for (int k = 0; k < 40; k++) {
            check.yes("a bar, as none of these stayed", x.write('|'));
        }
        check.due("profile()", x.profile(), 41);
        EventRecorder y = new EventRecorder(16, 0, 1);
        for (int code = 32; code <= 71; code++) {
            check.yes("code " + code, y.write((char) code));
        }
        y.profile();
        for (int code = 72; code <= 111; code++) {
            check.yes("code " + code, y.write((char) code));
        }
        y.profile();
        for (int code = 112; code <= 126; code++) {
            check.yes("code " + code, y.write((char) code));
        }
    }

    private static void advanceOutside() {
        check.in("promise 3: NOW grows by n, if that is 0 .. 1000, else not at all");
        EventRecorder x = new EventRecorder(16, 0, 1);
        int[][] steps = {{0, 0}, {-1, 0}, {1, 1}, {999, 1000}, {1000, 2000}, {1001, 2000}, {HIGH, 2000}, {LOW, 2000},
            {-1000, 2000}, {65536, 2000}, {0, 2000}, {1, 2001}};
        for (int[] step : steps) {
            check.due("advance(" + step[0] + ")", x.advance(step[0]), step[1]);
        }
    }

    private static void typeWithTooFewOrTooManyInts() {
        check.in("promise 4: IllegalArgumentException if ints is not 0 .. 3");
        EventRecorder x = new EventRecorder(16, 0, 1);
        for (int ints : new int[] {LOW, -1, 4, HIGH}) {
            check.badArgument("type(" + ints + ", false)", () -> x.type(ints, false));
            check.badArgument("type(" + ints + ", true)", () -> x.type(ints, true));
        }
        check.due("type(0)", x.type(0, false), 0);
        check.due("type(3)", x.type(3, true), 1);
    }

    private static void typeWhenThereAreSix() {
        check.in("promise 4: IllegalStateException if there are 6");
        EventRecorder x = new EventRecorder(16, 0, 1);
        for (int k = 0; k < 6; k++) {
            check.due("type(), so many before: " + k, x.type(k % 4, k % 2 == 0), k);
        }
        for (int ints = 0; ints <= 3; ints++) {
            int wanted = ints;
            check.badState("type(" + ints + ")", () -> x.type(wanted, true));
        }
    }

    private static void typeWithBothFaults() {
        check.in("promise 4: both faults (the document is silent; the one named first)");
        EventRecorder x = new EventRecorder(16, 0, 1);
        for (int k = 0; k < 6; k++) {
            x.type(0, false);
        }
        check.badArgument("type(-1)", () -> x.type(-1, false));
        check.badArgument("type(4)", () -> x.type(4, false));
    }

    private static void beginOfNoThread() {
        check.in("promise 5: false if there is no such thread");
        EventRecorder x = Check.running(16, 0, 1);
        for (int thread : new int[] {LOW, -1, 3, 4, HIGH}) {
            check.no("begin(" + thread + ")", x.begin(thread));
        }
        for (int thread = 0; thread < 3; thread++) {
            check.due("commit of thread " + thread + ", which has begun none", x.commit(thread, 0, 0, 0, 0), 1);
        }
    }

    private static void beginWhenItHasThree() {
        check.in("promise 5: false if it has 3");
        EventRecorder x = Check.running(60, 0, 1);
        for (int thread = 0; thread < 3; thread++) {
            for (int k = 0; k < 3; k++) {
                check.yes("begin(" + thread + ") with " + k, x.begin(thread));
            }
            check.no("begin(" + thread + ") with 3", x.begin(thread));
        }
        x.advance(5);
        check.no("begin(1) with 3, later", x.begin(1));
        check.due("commit", x.commit(1, 0, 0, 0, 0), 0);
        x.dump(0);
        check.output(x, 70, 2, 0, 1, 3, 0, 0, 5, 0, 0);
        check.yes("begin(1) with 2", x.begin(1));
        check.no("begin(0) with 3 still", x.begin(0));
    }

    private static void commitEndsTheLatest() {
        check.in("promise 6: a thread ends the event that it began latest");
        EventRecorder x = Check.running(60, 0, 1);
        x.begin(0);
        x.advance(1);
        x.begin(1);
        x.advance(2);
        x.begin(0);
        x.advance(4);
        x.commit(0, 0, 0, 0, 0);
        x.commit(0, 0, 0, 0, 0);
        x.commit(1, 0, 0, 0, 0);
        x.dump(0);
        check.output(x, 70, 2, 0, 3, 3, 0, 3, 4, 3, 0, 0, 7, 3, 0, 1, 6, 0, 0);
    }

    private static void commitTakesTheTick() {
        check.in("promise 6: that tick is begun no more, whatever is answered but NONE and 1");
        EventRecorder x = Check.running(16, 0, 1);
        check.due("commit", Check.event(x, 0, 0), 0);
        check.due("commit after 0", x.commit(0, 0, 0, 0, 0), 1);
        check.due("commit that is lost", Check.bigEvent(x, 0, 3), 4);
        check.due("commit after 4", x.commit(0, 0, 0, 0, 0), 1);
        Check.settings(x, 0, "0+1,1-");
        check.due("commit below the threshold", Check.event(x, 0, 0), 3);
        check.due("commit after 3", x.commit(0, 0, 0, 0, 0), 1);
        check.due("commit when it is off", Check.event(x, 0, 1), 2);
        check.due("commit after 2", x.commit(0, 0, 0, 0, 0), 1);
        x.begin(0);
        check.due("commit of no type", x.commit(0, 9, 0, 0, 0), NONE);
        check.due("commit of no thread", x.commit(9, 0, 0, 0, 0), NONE);
        check.due("commit of another thread", x.commit(1, 2, 0, 0, 0), 1);
        check.due("commit after NONE and 1", x.commit(0, 2, 0, 0, 0), 0);
    }

    private static void commitOfTheFirstInts() {
        check.in("promise 6: its ints are the first of a, b, c");
        EventRecorder x = Check.running(60, 0, 1);
        for (int ints = 0; ints <= 3; ints++) {
            check.due("an event of " + ints, Check.event(x, 0, ints, 1, 2, 3), 0);
        }
        x.dump(0);
        check.output(x, 70, 2, 0, 4, 3, 0, 0, 0, 4, 1, 0, 0, 2, 5, 2, 0, 0, 2, 4, 6, 3, 0, 0, 2, 4, 6, 0, 0);
    }

    private static void commitOfTheFirstEightCharacters() {
        check.in("promise 6: its string is the first 8 characters of the text (all if there are fewer)");
        EventRecorder x = Check.withStrings(60, 1, 1);
        String[] texts = {"", "a", "abcdefg", "abcdefgh", "abcdefghi", "abcdefghijklmnopqrstuvwxyzabcdefghijklmn"};
        int[] numbers = {0, 1, 2, 3, 3, 3};
        for (String text : texts) {
            check.due("an event with '" + text + "'", Check.eventWith(x, 0, 0, text), 0);
        }
        check.due("count(5)", x.count(5), 4);
        x.dump(0);
        for (int k = 0; k < numbers.length; k++) {
            check.outputFrom(x, 4 + 5 * k, 4, 0, 0, 0, numbers[k]);
        }
        check.outputFrom(x, 34, 0, 4, 0, 0, 1, 1, 'a', 2, 7, 'a', 'b', 'c', 'd', 'e', 'f', 'g',
            3, 8, 'a', 'b', 'c', 'd', 'e', 'f', 'g', 'h', NONE);
    }

    private static void commitTakesTheText() {
        check.in("promise 6: the text is taken if the type has a string");
        EventRecorder x = Check.withStrings(60, 0, 1);
        Check.text(x, "ab");
        check.due("commit of a type without a string", Check.event(x, 0, 2), 0);
        check.due("commit of it with none begun", x.commit(0, 2, 0, 0, 0), 1);
        check.due("commit of one with a string", Check.event(x, 0, 0), 0);
        check.due("commit of one with a string, again", Check.event(x, 0, 0), 0);
        x.dump(0);
        check.output(x, 70, 2, 0, 3, 3, 2, 0, 0, 4, 0, 0, 0, 0, 4, 0, 0, 0, 1, 0, 2, 0, 2, 'a', 'b', 1, 0);
    }

    private static void commitOfNoThreadOrType() {
        check.in("promise 6: NONE if there is no such thread or type (nothing is taken then)");
        EventRecorder x = Check.withStrings(60, 0, 1);
        x.begin(0);
        Check.text(x, "ab");
        for (int wrong : new int[] {LOW, -1, 3, 4, 6, HIGH}) {
            check.due("commit(" + wrong + ", 0)", x.commit(wrong, 0, 0, 0, 0), NONE);
            check.due("commit(0, " + wrong + ")", x.commit(0, wrong, 0, 0, 0), NONE);
            check.due("commit(" + wrong + ", " + wrong + ")", x.commit(wrong, wrong, 0, 0, 0), NONE);
            check.due("commit(1, " + wrong + ") with none begun", x.commit(1, wrong, 0, 0, 0), NONE);
        }
        check.due("commit(0, 0)", x.commit(0, 0, 0, 0, 0), 0);
        x.dump(0);
        check.output(x, 70, 2, 0, 1, 4, 0, 0, 0, 0, 0, 1, 0, 2, 'a', 'b');
    }

    private static void commitWhenNoneIsBegun() {
        check.in("promise 6: 1 if the thread has begun none");
        EventRecorder x = Check.withStrings(60, 0, 1);
        x.begin(1);
        check.due("commit(0, 0)", x.commit(0, 0, 0, 0, 0), 1);
        check.due("commit(2, 2)", x.commit(2, 2, 0, 0, 0), 1);
        check.due("commit(1, 2)", x.commit(1, 2, 0, 0, 0), 0);
        check.due("commit(1, 2) again", x.commit(1, 2, 0, 0, 0), 1);
        check.due("lost(0)", x.lost(0), 0);
        check.due("count(5)", x.count(5), 0);
        x.stop(0);
        check.due("commit(1, 2) when nothing runs", x.commit(1, 2, 0, 0, 0), 1);
    }

    private static void commitOnInNoRunningRecording() {
        check.in("promise 6: 2 if the type is on in no running recording");
        EventRecorder x = new EventRecorder(60, 0, 1);
        x.type(0, false);
        check.due("commit without recordings", Check.event(x, 0, 0), 2);
        x.record();
        check.due("commit when it is new", Check.event(x, 0, 0), 2);
        x.start(0);
        check.due("commit when it runs", Check.event(x, 0, 0), 0);
        Check.settings(x, 0, "0-");
        check.due("commit when it runs and the type is off", Check.event(x, 0, 0), 2);
        x.record();
        check.due("commit when it is on in a new one", Check.event(x, 0, 0), 2);
        x.start(1);
        check.due("commit when it is on in one that runs", Check.event(x, 0, 0), 0);
        x.stop(1);
        check.due("commit when it is on in a stopped one", Check.event(x, 0, 0), 2);
        x.close(1);
        check.due("commit when it is on in a closed one", Check.event(x, 0, 0), 2);
    }

    private static int lasting(EventRecorder x, int ticks) {
        x.begin(0);
        x.advance(ticks);
        return x.commit(0, 0, 0, 0, 0);
    }

    private static void commitAtTheThreshold() {
        check.in("promise 6: 3 if in none the duration is the threshold or more");
        int[][] due = {{0, 0, 0}, {1, 0, 3}, {1, 1, 0}, {10, 9, 3}, {10, 10, 0}, {10, 11, 0}, {999, 998, 3},
            {999, 999, 0}, {999, 1000, 0}};
        for (int[] row : due) {
            EventRecorder x = Check.running(60, 0, 1);
            Check.settings(x, 0, "0+" + row[0]);
            check.due("commit after " + row[1] + " with threshold " + row[0], lasting(x, row[1]), row[2]);
            check.due("buffered(0)", x.buffered(0) > 0 ? 0 : 3, row[2]);
        }
    }

    private static void commitAtTheLeastOfThresholds() {
        check.in("promise 6: those in which it is on, when several run");
        EventRecorder x = new EventRecorder(60, 4, 1);
        x.type(0, false);
        for (int k = 0; k < 4; k++) {
            x.record();
        }
        Check.settings(x, 0, "0+20");
        Check.settings(x, 1, "0-5");
        Check.settings(x, 2, "0+10");
        x.start(0);
        x.start(1);
        check.due("19 ticks, as 5 is off and 0 does not run", lasting(x, 19), 3);
        check.due("20 ticks", lasting(x, 20), 0);
        x.start(2);
        check.due("9 ticks", lasting(x, 9), 3);
        check.due("10 ticks, as one of two is enough", lasting(x, 10), 0);
        check.due("19 ticks", lasting(x, 19), 0);
        Check.settings(x, 1, "0+");
        check.due("4 ticks", lasting(x, 4), 3);
        check.due("5 ticks", lasting(x, 5), 0);
        Check.settings(x, 0, "0-");
        Check.settings(x, 2, "0-");
        x.close(1);
        check.due("20 ticks, as it is off in all", lasting(x, 20), 2);
    }

    private static void commitAnswersTheEarliestReason() {
        check.in("promise 6: the answers in their order");
        EventRecorder x = Check.running(16, 0, 1);
        Check.settings(x, 0, "3+1");
        check.due("too short, and too long to be put", Check.bigEvent(x, 0, 3), 3);
        Check.settings(x, 0, "3-1");
        check.due("off, too short, and too long to be put", Check.bigEvent(x, 0, 3), 2);
        check.due("none begun and off", x.commit(0, 3, HIGH, HIGH, HIGH), 1);
        check.due("no such thread, none begun", x.commit(3, 3, HIGH, HIGH, HIGH), NONE);
        check.due("lost(0)", x.lost(0), 0);
        Check.settings(x, 0, "3+0");
        check.due("too long to be put", Check.bigEvent(x, 0, 3), 4);
        check.due("lost(0)", x.lost(0), 1);
    }

    private static void commitNumbersNoUnwantedString() {
        check.in("promise 6: otherwise the string gets a number");
        EventRecorder x = Check.withStrings(60, 0, 1);
        Check.text(x, "one");
        x.commit(0, 0, 0, 0, 0);
        Check.settings(x, 0, "0-");
        Check.eventWith(x, 0, 0, "two");
        Check.settings(x, 0, "0+1");
        Check.eventWith(x, 0, 0, "three");
        check.due("count(5) after 1, 2 and 3", x.count(5), 0);
        Check.settings(x, 0, "0+0");
        Check.eventWith(x, 0, 0, "four");
        check.due("count(5)", x.count(5), 1);
        x.dump(0);
        check.output(x, 70, 2, 0, 1, 4, 0, 0, 0, 0, 0, 1, 0, 4, 'f', 'o', 'u', 'r');
    }

    private static void commitWithJustRoomEnough() {
        check.in("promise 6: if there is no room behind them");
        EventRecorder x = Check.running(17, 1, 1);
        Check.events(x, 0, 0, 3);
        check.due("an event that leaves nothing", Check.event(x, 0, 1), 0);
        check.due("buffered(0)", x.buffered(0), 17);
        check.due("count(0)", x.count(0), 0);
        check.due("the next", Check.event(x, 0, 0), 0);
        check.due("buffered(0)", x.buffered(0), 4);
        check.due("count(0)", x.count(0), 1);
        EventRecorder y = Check.running(17, 1, 1);
        Check.events(y, 0, 0, 3);
        check.due("an event that is a byte too long", Check.event(y, 0, 2), 0);
        check.due("buffered(0)", y.buffered(0), 6);
        check.due("count(0)", y.count(0), 1);
        check.due("flush()", y.flush(), 12);
    }

    private static void commitTakesASharedBuffer() {
        check.in("promise 6: a full buffer of the pool (one that is not full is taken)");
        EventRecorder x = Check.running(16, 3, 1);
        // Fuller and fuller by one event each, so that flush() tells which one it was.
        Check.event(x, 0, 0);
        check.due("an event of 13 bytes behind 4", Check.event(x, 0, 3, HIGH, 64, 64), 0);
        check.due("count(0)", x.count(0), 1);
        check.due("an event of 4 bytes behind 13", Check.event(x, 0, 0), 0);
        check.due("count(0)", x.count(0), 2);
        check.due("flush()", x.flush(), 4);
        check.due("an event of 13 bytes behind 4", Check.event(x, 0, 3, HIGH, 64, 64), 0);
        check.due("an event of 4 bytes behind 13", Check.event(x, 0, 0), 0);
        check.due("count(0), all full", x.count(0), 3);
        check.due("an event of 13 bytes behind 4", Check.event(x, 0, 3, HIGH, 64, 64), 4);
        check.due("flush()", x.flush(), 13);
        check.due("an event of 13 bytes behind 4", Check.event(x, 0, 3, HIGH, 64, 64), 0);
        check.due("flush()", x.flush(), 4);
        check.due("flush()", x.flush(), 13);
        check.due("flush()", x.flush(), 4);
        check.due("flush() of none", x.flush(), 0);
        check.due("buffered(0)", x.buffered(0), 13);
    }

    private static void lostForTheTwentyFifthString() {
        check.in("promise 6: 4, when the string needs a number and there are 24");
        EventRecorder x = Check.withStrings(60, 4, 1);
        for (int k = 0; k < 23; k++) {
            Check.eventWith(x, 0, 0, "" + (char) (65 + k));
        }
        check.due("the 24th", Check.eventWith(x, 0, 0, "last"), 0);
        check.due("the 25th", Check.eventWith(x, 0, 0, "more"), 4);
        check.due("the 25th, empty", Check.event(x, 0, 0), 4);
        check.due("one that has a number", Check.eventWith(x, 0, 0, "last"), 0);
        check.due("one whose first 8 have none", Check.eventWith(x, 0, 0, "last but one"), 4);
        check.due("an event without a string", Check.event(x, 0, 2), 0);
        check.due("count(5)", x.count(5), 24);
        check.due("lost(0)", x.lost(0), 3);
    }

    private static void lostForItsLength() {
        check.in("promise 6: 4, when the event has more than SIZE bytes");
        int[] values = {0, 64, 8192, 1 << 20, 1 << 27};
        for (int size = 16; size <= 20; size++) {
            for (int k = 0; k < 5; k++) {
                EventRecorder x = Check.running(size, 4, 1);
                int length = 4 + 5 + 5 + 1 + k;
                int due = length > size ? 4 : 0;
                check.due(length + " bytes with size " + size, Check.event(x, 2, 3, HIGH, LOW, values[k]), due);
                check.due("buffered(2)", x.buffered(2), length > size ? 0 : length);
                check.due("lost(2)", x.lost(2), due / 4);
                check.due("count(0)", x.count(0), 0);
            }
        }
    }

    private static void lostForAFullPool() {
        check.in("promise 6: 4, when a shared buffer is needed and all are full");
        for (int pool = 0; pool <= 4; pool++) {
            EventRecorder x = Check.running(16, pool, 1);
            Check.events(x, 0, 0, 4 * (pool + 1));
            check.due("count(0) with pool " + pool, x.count(0), pool);
            check.due("lost(0)", x.lost(0), 0);
            Check.events(x, 2, 0, 4);
            check.due("buffered(2), which needs none yet", x.buffered(2), 16);
            check.due("one that needs one", Check.event(x, 2, 0), 4);
            check.due("lost(2)", x.lost(2), 1);
            check.due("buffered(2)", x.buffered(2), 16);
            check.due("count(0) with pool " + pool, x.count(0), pool);
            check.due("flush()", x.flush(), pool == 0 ? 0 : 16);
            check.due("one that needs one, after a flush", Check.event(x, 2, 0), pool == 0 ? 4 : 0);
            check.due("one of thread 0, as all are full again", Check.event(x, 0, 0), 4);
        }
    }

    private static void lostChangesNothingElse() {
        check.in("promise 6: nothing else changes when an event is lost");
        EventRecorder x = Check.withStrings(16, 1, 1);
        Check.eventWith(x, 0, 0, "a");
        check.due("too long, with bytes before it and a shared buffer free", Check.bigEvent(x, 0, 1), 4);
        check.due("buffered(0)", x.buffered(0), 5);
        check.due("count(0)", x.count(0), 0);
        for (int k = 0; k < 23; k++) {
            Check.eventWith(x, 1, 0, "" + (char) (98 + k));
            if (x.count(0) == 1) {
                x.flush();
            }
        }
        check.due("count(5)", x.count(5), 24);
        Check.events(x, 2, 2, 4);
        check.due("buffered(2)", x.buffered(2), 16);
        check.due("no number for its string, and no room", Check.eventWith(x, 2, 0, "new"), 4);
        check.due("buffered(2), which did not become full", x.buffered(2), 16);
        check.due("count(0)", x.count(0), 0);
        check.due("count(1)", x.count(1), 2);
        check.due("lost(0)", x.lost(0), 1);
        check.due("lost(1)", x.lost(1), 0);
        check.due("lost(2)", x.lost(2), 1);
    }

    private static void lostStringGetsNoNumber() {
        check.in("promise 6: a lost event's string gets no number, and is not used by it");
        EventRecorder x = Check.withStrings(16, 0, 1);
        Check.text(x, "long");
        check.due("an event that is too long", Check.bigEvent(x, 0, 1), 4);
        check.due("count(5)", x.count(5), 0);
        Check.events(x, 0, 2, 4);
        check.due("an event without room", Check.eventWith(x, 0, 0, "late"), 4);
        check.due("count(5)", x.count(5), 0);
        Check.eventWith(x, 1, 0, "good");
        check.due("count(5)", x.count(5), 1);
        x.dump(0);
        check.outputFrom(x, 20, 4, 0, 0, 0, 0, 3, 63, 0, 2, 0, 1, 0, 4, 'g', 'o', 'o', 'd', NONE);
        Check.text(x, "good");
        check.due("an event that is too long, whose string has a number", Check.bigEvent(x, 0, 1), 4);
        x.dump(0);
        check.output(x, 70, 3, 0, 0, 3, 63, 0, 1, 0, 0);
    }

    private static void flushOfNone() {
        check.in("promise 7: 0 if there is none");
        EventRecorder x = Check.running(16, 1, 1);
        check.due("flush() of a new object", x.flush(), 0);
        Check.events(x, 0, 0, 4);
        check.due("flush() when a thread's buffer is full to the last byte", x.flush(), 0);
        check.due("buffered(0)", x.buffered(0), 16);
        check.due("count(2)", x.count(2), 0);
        Check.event(x, 0, 0);
        check.due("flush()", x.flush(), 16);
        check.due("flush() again", x.flush(), 0);
        check.due("count(2)", x.count(2), 16);
        check.due("buffered(0)", x.buffered(0), 4);
    }

    private static void flushOfTheFirst() {
        check.in("promise 7: the first of the full buffers goes to the end of the open chunk, and is empty");
        EventRecorder x = Check.running(16, 3, 1);
        Check.events(x, 1, 3, 3);
        Check.events(x, 0, 1, 4);
        Check.events(x, 2, 0, 5);
        int[] moved = {14, 15, 16, 0};
        int sum = 0;
        for (int k = 0; k < moved.length; k++) {
            check.due("count(0)", x.count(0), 3 - k);
            check.due("flush()", x.flush(), moved[k]);
            sum += moved[k];
            check.due("count(2)", x.count(2), sum);
        }
        check.due("count(0)", x.count(0), 0);
        check.due("count(1)", x.count(1), 2);
        x.dump(0);
        check.outputFrom(x, 4, 6, 3, 0, 0, 0, 0, 0, 6, 3, 0, 0, 0, 0, 0, 4, 1, 0, 0, 0);
        check.outputFrom(x, 33, 3, 0, 0, 0);
    }

    private static void flushUpTo150Bytes() {
        check.in("promise 7: it rotates if the chunk has more than 150 bytes; 150 are not more");
        EventRecorder x = Check.running(50, 3, 1);
        Check.events(x, 0, 1, 31);
        for (int k = 1; k <= 3; k++) {
            check.due("flush()", x.flush(), 50);
            check.due("count(2)", x.count(2), 50 * k);
        }
        check.due("count(1) with 150", x.count(1), 2);
        check.due("flush() of none", x.flush(), 0);
        check.due("count(1) with 150 still", x.count(1), 2);
        check.due("buffered(0)", x.buffered(0), 5);
        Check.events(x, 0, 1, 10);
        check.due("flush() of 50 more", x.flush(), 50);
        check.due("count(1) with 200", x.count(1), 3);
        check.due("dump(0)", x.dump(0), 4 + 205 + 2);
    }

    private static void flushOf151Bytes() {
        check.in("promise 7: it rotates if the chunk has more than 150 bytes; 151 are");
        EventRecorder x = Check.running(51, 3, 1);
        Check.events(x, 0, 1, 9);
        Check.event(x, 0, 2);
        Check.events(x, 0, 1, 21);
        check.due("flush()", x.flush(), 51);
        check.due("flush()", x.flush(), 50);
        check.due("count(1) with 101", x.count(1), 2);
        check.due("count(2)", x.count(2), 101);
        x.advance(3);
        check.due("flush()", x.flush(), 50);
        check.due("count(1) with 151", x.count(1), 3);
        check.due("count(2)", x.count(2), 0);
        check.due("count(3)", x.count(3), 1);
        check.due("flush() of none", x.flush(), 0);
        check.due("count(1)", x.count(1), 3);
        Check.event(x, 0, 0);
        x.dump(0);
        check.output(x, 70, 3, 3, 1, 3, 0, 3, 0, 0, 0);
    }

    private static void flushThatRotatesTakesAll() {
        check.in("promise 7: when it rotates, it answers how many bytes the first buffer had");
        EventRecorder x = Check.running(60, 4, 1);
        Check.events(x, 0, 0, 61);
        Check.event(x, 1, 0);
        Check.bigEvent(x, 2, 3);
        check.due("count(0)", x.count(0), 4);
        check.due("flush()", x.flush(), 60);
        check.due("flush()", x.flush(), 60);
        check.due("flush() to 180 bytes", x.flush(), 60);
        check.due("count(0), as the fourth went too", x.count(0), 0);
        for (int thread = 0; thread < 3; thread++) {
            check.due("buffered(" + thread + ")", x.buffered(thread), 0);
        }
        check.due("count(1)", x.count(1), 3);
        check.due("dump(0)", x.dump(0), 4 + 61 * 4 + 4 + 19 + 2);
    }

    private static void bufferedOfNoThread() {
        check.in("promise 18: NONE if there is no such thread");
        EventRecorder x = Check.running(16, 1, 1);
        for (int thread : new int[] {LOW, -1, 3, 4, HIGH}) {
            check.due("buffered(" + thread + ")", x.buffered(thread), NONE);
        }
        check.due("buffered(0)", x.buffered(0), 0);
        check.due("buffered(2)", x.buffered(2), 0);
    }

    private static void bufferedFromEmptyToFull() {
        check.in("promise 18: how many bytes are in the buffer of a thread");
        EventRecorder x = Check.running(60, 1, 1);
        for (int k = 1; k <= 15; k++) {
            Check.event(x, 2, 0);
            check.due("buffered(2)", x.buffered(2), 4 * k);
        }
        check.due("buffered(1)", x.buffered(1), 0);
        Check.event(x, 2, 1);
        check.due("buffered(2) when 60 went to the pool", x.buffered(2), 5);
        x.flush();
        check.due("buffered(2) after a flush", x.buffered(2), 5);
        x.dump(0);
        check.due("buffered(2) after a rotation", x.buffered(2), 0);
    }

    private static void countOfAnotherWhat() {
        check.in("promise 19: NONE for another what");
        EventRecorder x = new EventRecorder(16, 1, 1);
        for (int what : new int[] {LOW, -1, 6, 7, HIGH}) {
            check.due("count(" + what + ")", x.count(what), NONE);
        }
        check.due("count(0)", x.count(0), 0);
        check.due("count(5)", x.count(5), 0);
    }

    private static void countOfFullBuffers() {
        check.in("promise 19: how many shared buffers are full");
        EventRecorder x = Check.running(16, 4, 1);
        for (int k = 0; k <= 4; k++) {
            check.due("count(0)", x.count(0), k == 0 ? 0 : k - 1);
            Check.events(x, 0, 0, 4);
        }
        check.due("count(0)", x.count(0), 4);
        check.due("an event without room", Check.event(x, 0, 0), 4);
        check.due("count(0)", x.count(0), 4);
        x.dump(0);
        check.due("count(0) after a rotation", x.count(0), 0);
    }

    private static void countOfTheOpenChunksBytes() {
        check.in("promise 19: the open chunk's bytes of events so far");
        EventRecorder x = Check.running(16, 1, 1);
        Check.bigEvent(x, 1, 3);
        Check.events(x, 0, 0, 5);
        check.due("count(2) before a flush", x.count(2), 0);
        x.flush();
        check.due("count(2) after it, without the loss", x.count(2), 16);
        x.dump(0);
        check.due("count(2) of the next", x.count(2), 0);
    }

    private static void lostOfNoThread() {
        check.in("promise 20: NONE if there is no such thread");
        EventRecorder x = Check.running(16, 0, 1);
        for (int thread : new int[] {LOW, -1, 3, 4, HIGH}) {
            check.due("lost(" + thread + ")", x.lost(thread), NONE);
        }
        check.due("lost(0)", x.lost(0), 0);
        check.due("lost(2)", x.lost(2), 0);
    }

    private static void lostInAllChunks() {
        check.in("promise 20: so far (in all chunks)");
        EventRecorder x = Check.running(16, 0, 1);
        for (int k = 1; k <= 5; k++) {
            check.due("an event that is lost", Check.bigEvent(x, k % 2, 3), 4);
            check.due("lost(0)", x.lost(0), k / 2);
            check.due("lost(1)", x.lost(1), (k + 1) / 2);
            x.dump(0);
        }
        check.due("count(4), as chunks with losses were evicted", x.count(4), 4);
        x.stop(0);
        check.due("lost(1) when nothing runs", x.lost(1), 3);
        check.due("lost(2)", x.lost(2), 0);
    }
}
