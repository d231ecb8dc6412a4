/** Promises 1 to 7 and 18 to 20: threads, types, events, buffers, chunks and losses. */
public final class EventsTest {
    private static final int NONE = EventRecorder.NONE;
    private static final int LOW = Integer.MIN_VALUE;
    private static final int HIGH = Integer.MAX_VALUE;
    private static final Check check = new Check();

    public static void main(String[] args) {
        newObject();
        write();
        advance();
        type();
        begin();
        commitOfNothing();
        commitTakesTicksAndText();
        commitFollowsSettings();
        commitPutsBytes();
        commitPutsExtremes();
        commitNumbersStrings();
        commitNeedsRoom();
        commitLosesLongEvents();
        commitPutsTheLongestEvent();
        commitLosesNewStrings();
        lostEventUsesNoString();
        flush();
        flushRotates();
        rotation();
        fullestChunks();
        evictedStringsAreForgotten();
        losses();
        buffered();
        count();
        lost();
        check.end();
    }

    private static void newObject() {
        check.in("promise 1, a new object");
        EventRecorder x = new EventRecorder(20, 2, 2);
        check.due("NONE", EventRecorder.NONE, -1);
        int[] counts = {0, 1, 0, 0, 0, 0};
        for (int what = 0; what < counts.length; what++) {
            check.due("count(" + what + ")", x.count(what), counts[what]);
        }
        for (int thread = 0; thread < 3; thread++) {
            check.due("buffered(" + thread + ")", x.buffered(thread), 0);
            check.due("lost(" + thread + ")", x.lost(thread), 0);
            check.due("commit(" + thread + ", 0)", x.commit(thread, 0, 0, 0, 0), NONE);
        }
        check.due("state(0)", x.state(0), NONE);
        check.due("threshold(0, 0)", x.threshold(0, 0), NONE);
        check.due("output(0)", x.output(0), NONE);
        check.due("advance(0)", x.advance(0), 0);
        check.due("profile()", x.profile(), 1);
        check.due("flush()", x.flush(), 0);
    }

    private static void write() {
        check.in("promise 2, write");
        EventRecorder x = new EventRecorder(20, 1, 1);
        int[] refused = {0, 10, 31, 127, 128, 160, 255, 256, 0x2B30, 65535};
        for (int code : refused) {
            check.no("write of code " + code, x.write((char) code));
        }
        for (int code = 32; code <= 126; code++) {
            check.yes("write of code " + code, new EventRecorder(20, 1, 1).write((char) code));
        }
        for (int k = 0; k < 40; k++) {
            check.yes("write of character " + (k + 1), x.write('|'));
        }
        check.no("write of character 41", x.write('|'));
        check.no("write of character 41 again", x.write('a'));
        check.due("profile() of forty |", x.profile(), 41);
        check.yes("write after the text was taken", x.write('|'));
        check.no("write of code 31 amid a text", x.write((char) 31));
        check.due("profile() of one |", x.profile(), 2);
    }

    private static void advance() {
        check.in("promise 3, advance");
        EventRecorder x = new EventRecorder(20, 1, 1);
        check.due("advance(0)", x.advance(0), 0);
        check.due("advance(1)", x.advance(1), 1);
        check.due("advance(1000)", x.advance(1000), 1001);
        int[] refused = {1001, -1, LOW, HIGH};
        for (int n : refused) {
            check.due("advance(" + n + ")", x.advance(n), 1001);
        }
        check.due("advance(999)", x.advance(999), 2000);
    }

    private static void type() {
        check.in("promise 4, type");
        EventRecorder x = new EventRecorder(60, 4, 1);
        int[] refused = {-1, 4, LOW, HIGH};
        for (int ints : refused) {
            check.badArgument("type(" + ints + ")", () -> x.type(ints, true));
        }
        x.start(x.record());
        check.due("commit of a type that was refused", Check.event(x, 0, 0), NONE);
        int[] ints = {0, 1, 2, 3, 0, 3};
        boolean[] string = {false, false, false, false, true, true};
        int bytes = 0;
        for (int k = 0; k < 6; k++) {
            check.due("type " + k, x.type(ints[k], string[k]), k);
            check.due("an event of type " + k, Check.event(x, 1, k), 0);
            bytes += 4 + ints[k] + (string[k] ? 1 : 0);
            check.due("buffered(1) after type " + k, x.buffered(1), bytes);
        }
        check.badState("type 6", () -> x.type(0, false));
        check.badState("type 6 again", () -> x.type(3, true));
        check.badArgument("type 6 with 4 ints", () -> x.type(4, true));
        check.due("commit of type 6", x.commit(0, 6, 0, 0, 0), NONE);
    }

    private static void begin() {
        check.in("promise 5, begin");
        EventRecorder x = Check.running(60, 1, 1);
        int[] refused = {-1, 3, LOW, HIGH};
        for (int thread : refused) {
            check.no("begin(" + thread + ")", x.begin(thread));
        }
        for (int thread = 0; thread < 3; thread++) {
            for (int k = 0; k < 3; k++) {
                check.yes("begin(" + thread + ")", x.begin(thread));
                x.advance(1);
            }
            check.no("begin(" + thread + ") a fourth time", x.begin(thread));
        }
        for (int k = 0; k < 3; k++) {
            check.due("commit(1, 0)", x.commit(1, 0, 0, 0, 0), 0);
        }
        check.due("commit(1, 0) a fourth time", x.commit(1, 0, 0, 0, 0), 1);
        check.yes("begin(1) when it has none", x.begin(1));
        check.no("begin(0) when thread 1 has one", x.begin(0));
        x.dump(0);
        check.output(x, 70, 2, 0, 3, 3, 0, 5, 4, 3, 0, 4, 5, 3, 0, 3, 6, 0, 0);
    }

    private static void commitOfNothing() {
        check.in("promise 6, commit that answers NONE or 1");
        EventRecorder x = new EventRecorder(60, 1, 1);
        x.type(0, true);
        x.type(0, false);
        x.start(x.record());
        x.begin(0);
        Check.text(x, "ab");
        int[] noThread = {-1, 3, LOW, HIGH};
        for (int thread : noThread) {
            check.due("commit(" + thread + ", 0)", x.commit(thread, 0, 0, 0, 0), NONE);
        }
        int[] noType = {-1, 2, 6, LOW, HIGH};
        for (int type : noType) {
            check.due("commit(0, " + type + ")", x.commit(0, type, 0, 0, 0), NONE);
        }
        check.due("commit(0, 0) with all still there", x.commit(0, 0, 0, 0, 0), 0);
        Check.text(x, "lost");
        check.due("commit(0, 0) with none begun", x.commit(0, 0, 0, 0, 0), 1);
        Check.text(x, "cd");
        check.due("commit(0, 1) with none begun", x.commit(0, 1, 0, 0, 0), 1);
        check.due("an event with the text that was left", Check.event(x, 0, 0), 0);
        x.dump(0);
        check.output(x, 70, 2, 0, 2, 4, 0, 0, 0, 0, 4, 0, 0, 0, 1, 0,
            2, 0, 2, 'a', 'b', 1, 2, 'c', 'd');
    }

    private static void commitTakesTicksAndText() {
        check.in("promise 6, what commit takes");
        EventRecorder x = new EventRecorder(16, 0, 1);
        x.type(0, true);
        x.type(0, false);
        x.record();
        x.begin(0);
        Check.text(x, "gone");
        check.due("commit when nothing runs", x.commit(0, 0, 0, 0, 0), 2);
        check.due("commit when the tick is gone", x.commit(0, 0, 0, 0, 0), 1);
        x.start(0);
        Check.settings(x, 0, "0+5");
        x.begin(0);
        Check.text(x, "gone");
        check.due("commit below the threshold", x.commit(0, 0, 0, 0, 0), 3);
        check.due("commit when the tick is gone", x.commit(0, 0, 0, 0, 0), 1);
        Check.settings(x, 0, "0+0");
        Check.text(x, "stays");
        for (int k = 0; k < 4; k++) {
            check.due("commit without a string", Check.event(x, 0, 1), 0);
        }
        check.due("a lost event", Check.event(x, 0, 0), 4);
        check.due("commit when the tick is gone", x.commit(0, 1, 0, 0, 0), 1);
        check.due("an event of another thread", Check.event(x, 1, 0), 0);
        check.due("count(5)", x.count(5), 1);
        x.dump(0);
        check.due("the string's length, as the text was taken", x.output(x.dump(0) - 1), 0);
    }

    private static void commitFollowsSettings() {
        check.in("promise 6, commit and settings");
        EventRecorder x = new EventRecorder(60, 4, 1);
        x.type(0, false);
        for (int k = 0; k < 4; k++) {
            x.record();
        }
        check.due("commit when all are new", Check.event(x, 0, 0), 2);
        Check.settings(x, 0, "0-");
        Check.settings(x, 1, "0+10");
        Check.settings(x, 2, "0+20");
        x.start(0);
        check.due("commit when it is off", Check.event(x, 0, 0), 2);
        x.start(1);
        x.start(2);
        int[][] due = {{0, 3}, {9, 3}, {10, 0}, {11, 0}, {20, 0}};
        for (int[] pair : due) {
            x.begin(0);
            x.advance(pair[0]);
            check.due("commit after " + pair[0] + " ticks", x.commit(0, 0, 0, 0, 0), pair[1]);
        }
        x.stop(1);
        x.begin(0);
        x.advance(19);
        check.due("commit after 19 ticks", x.commit(0, 0, 0, 0, 0), 3);
        x.begin(0);
        x.advance(20);
        check.due("commit after 20 ticks", x.commit(0, 0, 0, 0, 0), 0);
        x.close(2);
        x.begin(0);
        x.advance(20);
        check.due("commit when only off runs", x.commit(0, 0, 0, 0, 0), 2);
        Check.settings(x, 0, "0+");
        check.due("commit when it is on again", Check.event(x, 0, 0), 0);
        x.stop(0);
        check.due("commit when none runs", Check.event(x, 0, 0), 2);
    }

    private static void commitPutsBytes() {
        check.in("promise 6, the bytes of events");
        EventRecorder x = Check.running(60, 4, 1);
        x.advance(127);
        x.begin(0);
        x.advance(1);
        x.begin(1);
        x.advance(127);
        x.commit(0, 1, -1, 99, 99);
        x.advance(1);
        x.commit(1, 2, 63, -64, 99);
        x.advance(1000);
        x.begin(2);
        x.commit(2, 3, 64, -65, 8192);
        check.due("dump(0)", x.dump(0), 4 + 6 + 8 + 12 + 2);
        check.output(x, 70, 2, 0, 3,
            5, 1, 127, 128, 1, 1,
            7, 2, 128, 1, 128, 1, 126, 127,
            11, 3, 232, 9, 0, 128, 1, 129, 1, 128, 128, 1,
            0, 0);
    }

    private static void commitPutsExtremes() {
        check.in("promise 6, the bytes of the greatest and the least ints");
        EventRecorder x = Check.running(60, 4, 1);
        check.due("an event", Check.event(x, 0, 3, HIGH, LOW, -1), 0);
        check.due("an event", Check.event(x, 0, 3, 1 << 30, -(1 << 30), -(1 << 30) - 1), 0);
        check.due("buffered(0)", x.buffered(0), 15 + 19);
        x.dump(0);
        check.output(x, 70, 2, 0, 2,
            14, 3, 0, 0, 254, 255, 255, 255, 15, 255, 255, 255, 255, 15, 1,
            18, 3, 0, 0, 128, 128, 128, 128, 8, 255, 255, 255, 255, 7, 129, 128, 128, 128, 8,
            0, 0);
    }

    private static void commitNumbersStrings() {
        check.in("promise 6, strings");
        EventRecorder x = new EventRecorder(60, 4, 2);
        x.type(1, true);
        x.start(x.record());
        String[] texts = {"abcdefgh", "abcdefghi", "abcdefg", "", "abcdefgH", "", "abcdefgh and more", "~ "};
        int[] strings = {1, 1, 2, 3, 4, 4, 4, 5};
        for (int k = 0; k < texts.length; k++) {
            check.due("an event with '" + texts[k] + "'", Check.eventWith(x, k % 3, 0, texts[k]), 0);
            check.due("count(5) after '" + texts[k] + "'", x.count(5), strings[k]);
        }
        x.dump(0);
        check.output(x, 70, 2, 0, 8,
            5, 0, 0, 0, 0, 0, 5, 0, 0, 0, 0, 2, 5, 0, 0, 0, 0, 0,
            5, 0, 0, 0, 0, 0, 5, 0, 0, 0, 0, 3, 5, 0, 0, 0, 0, 4,
            5, 0, 0, 0, 0, 1, 5, 0, 0, 0, 0, 2,
            0, 5,
            0, 8, 'a', 'b', 'c', 'd', 'e', 'f', 'g', 'h',
            1, 7, 'a', 'b', 'c', 'd', 'e', 'f', 'g',
            2, 0,
            3, 8, 'a', 'b', 'c', 'd', 'e', 'f', 'g', 'H',
            4, 2, '~', ' ');
        Check.eventWith(x, 0, 0, "abcdefgH");
        Check.eventWith(x, 0, 0, "abcdefg");
        x.stop(0);
        check.due("dump(0)", x.dump(0), 4 + 48 + 2 + 35 + 4 + 12 + 2 + 19);
        int[] second = {70, 3, 0, 2, 5, 0, 0, 0, 0, 3, 5, 0, 0, 0, 0, 1, 0, 2,
            1, 7, 'a', 'b', 'c', 'd', 'e', 'f', 'g', 3, 8, 'a', 'b', 'c', 'd', 'e', 'f', 'g', 'H'};
        for (int k = 0; k < second.length; k++) {
            check.due("output of the second chunk, byte " + k, x.output(89 + k), second[k]);
        }
    }

    private static void commitNeedsRoom() {
        check.in("promise 6, room in the buffers");
        EventRecorder x = Check.running(17, 2, 1);
        for (int k = 0; k < 4; k++) {
            Check.event(x, 0, 0);
        }
        check.due("count(0)", x.count(0), 0);
        check.due("an event with one byte of room", Check.event(x, 0, 0), 0);
        check.due("count(0)", x.count(0), 1);
        check.due("buffered(0)", x.buffered(0), 4);
        Check.event(x, 1, 3);
        Check.event(x, 1, 3);
        check.due("buffered(1)", x.buffered(1), 14);
        check.due("an event of thread 1", Check.event(x, 1, 1), 0);
        check.due("count(0)", x.count(0), 2);
        check.due("buffered(1)", x.buffered(1), 5);
        check.due("an event that fits the rest", Check.event(x, 0, 3, 0, 0, 0), 0);
        check.due("an event without room", Check.event(x, 0, 3), 4);
        check.due("buffered(0) after the loss", x.buffered(0), 11);
        check.due("count(0) after the loss", x.count(0), 2);
        check.due("an event that fits after the loss", Check.event(x, 0, 2), 0);
        check.due("buffered(0)", x.buffered(0), 17);
        check.due("flush()", x.flush(), 16);
        check.due("an event when a shared buffer is empty", Check.event(x, 0, 0), 0);
        check.due("count(0)", x.count(0), 2);
        check.due("flush()", x.flush(), 14);
        check.due("flush()", x.flush(), 17);
    }

    private static void commitLosesLongEvents() {
        check.in("promise 6, events that are too long");
        EventRecorder x = Check.running(16, 2, 1);
        check.due("an event of 16 bytes", Check.event(x, 0, 3, HIGH, 1 << 20, 1 << 13), 0);
        x.dump(0);
        check.due("an event of 17 bytes", Check.event(x, 0, 3, HIGH, HIGH, 1 << 13), 4);
        check.due("buffered(0)", x.buffered(0), 0);
        Check.event(x, 0, 0);
        check.due("an event of 19 bytes", Check.event(x, 0, 3, HIGH, HIGH, HIGH), 4);
        check.due("buffered(0)", x.buffered(0), 4);
        check.due("count(0)", x.count(0), 0);
        check.due("lost(0)", x.lost(0), 2);
    }

    private static void commitPutsTheLongestEvent() {
        check.in("promise 6, the longest event");
        int[][] answers = {{23, 4}, {24, 0}};
        for (int[] pair : answers) {
            EventRecorder x = new EventRecorder(pair[0], 0, 1);
            x.type(3, true);
            x.start(x.record());
            for (int k = 0; k < 40; k++) {
                if (k == 20) {
                    x.begin(0);
                }
                x.advance(1000);
            }
            check.due("commit with size " + pair[0], x.commit(0, 0, HIGH, LOW, HIGH), pair[1]);
            check.due("count(5) with size " + pair[0], x.count(5), 1 - pair[1] / 4);
            x.dump(0);
            if (pair[1] == 0) {
                check.output(x, 70, 2, 0, 1, 23, 0, 160, 156, 1, 160, 156, 1, 254, 255, 255, 255, 15,
                    255, 255, 255, 255, 15, 254, 255, 255, 255, 15, 0, 0, 1, 0, 0);
            } else {
                check.output(x, 70, 2, 0, 0, 3, 63, 0, 1, 0, 0);
            }
        }
    }

    private static void commitLosesNewStrings() {
        check.in("promise 6, the 25th string");
        EventRecorder x = new EventRecorder(60, 4, 1);
        x.type(0, true);
        x.start(x.record());
        for (int k = 0; k < 24; k++) {
            check.due("string " + k, Check.eventWith(x, k % 3, 0, "s" + k), 0);
        }
        check.due("string 24", Check.eventWith(x, 0, 0, "new"), 4);
        check.due("count(5)", x.count(5), 24);
        check.due("lost(0)", x.lost(0), 1);
        check.due("string 23 again", Check.eventWith(x, 0, 0, "s23"), 0);
        check.due("string 24 again", Check.eventWith(x, 1, 0, "new"), 4);
        check.due("an empty string", Check.event(x, 1, 0), 4);
        check.due("lost(1)", x.lost(1), 2);
        x.dump(0);
        check.due("events in the chunk", x.output(3), 25);
    }

    private static void lostEventUsesNoString() {
        check.in("promise 6, the string of a lost event");
        EventRecorder x = new EventRecorder(16, 0, 3);
        x.type(0, true);
        x.type(3, true);
        x.start(x.record());
        Check.eventWith(x, 0, 0, "a");
        x.dump(0);
        Check.text(x, "a");
        check.due("an event that is too long", Check.event(x, 0, 1, HIGH, HIGH, HIGH), 4);
        Check.text(x, "b");
        check.due("an event that is too long", Check.event(x, 0, 1, HIGH, HIGH, HIGH), 4);
        check.due("count(5)", x.count(5), 1);
        check.due("buffered(0)", x.buffered(0), 0);
        Check.eventWith(x, 1, 0, "c");
        check.due("count(5)", x.count(5), 2);
        x.dump(0);
        check.output(x, 70, 2, 0, 1, 4, 0, 0, 0, 0, 0, 1, 0, 1, 'a',
            70, 3, 0, 1, 4, 0, 0, 0, 1, 3, 63, 0, 2, 0, 1, 1, 1, 'c');
    }

    private static void flush() {
        check.in("promise 7, flush");
        EventRecorder x = Check.running(16, 3, 1);
        check.due("flush() of nothing", x.flush(), 0);
        Check.event(x, 2, 3, 1, 2, 3);
        Check.event(x, 2, 3, 4, 5, 6);
        Check.event(x, 2, 1, 7);
        Check.event(x, 0, 1, 1);
        Check.event(x, 0, 1, 2);
        Check.event(x, 0, 1, 3);
        Check.event(x, 0, 1, 4);
        check.due("count(0)", x.count(0), 2);
        check.due("flush() of thread 2's bytes", x.flush(), 14);
        check.due("count(2)", x.count(2), 14);
        check.due("count(0)", x.count(0), 1);
        check.due("flush() of thread 0's bytes", x.flush(), 15);
        check.due("count(2)", x.count(2), 29);
        check.due("flush() of nothing more", x.flush(), 0);
        check.due("count(2)", x.count(2), 29);
        check.due("count(1)", x.count(1), 2);
        check.due("buffered(0)", x.buffered(0), 5);
        check.due("buffered(2)", x.buffered(2), 5);
        x.dump(0);
        check.output(x, 70, 2, 0, 7,
            6, 3, 0, 0, 2, 4, 6, 6, 3, 0, 0, 8, 10, 12,
            4, 1, 0, 0, 2, 4, 1, 0, 0, 4, 4, 1, 0, 0, 6,
            4, 1, 0, 0, 8, 4, 1, 0, 0, 14,
            0, 0);
    }

    private static void fives(EventRecorder x, int thread, int many) {
        for (int k = 0; k < many; k++) {
            check.due("an event of 5 bytes", Check.event(x, thread, 1), 0);
        }
    }

    private static void flushRotates() {
        check.in("promise 7, flush that rotates");
        EventRecorder x = Check.running(50, 4, 2);
        fives(x, 0, 31);
        for (int k = 1; k <= 3; k++) {
            check.due("flush()", x.flush(), 50);
            check.due("count(2)", x.count(2), 50 * k);
            check.due("count(1)", x.count(1), 2);
        }
        check.due("count(3) with 150 bytes", x.count(3), 0);
        check.due("flush() of nothing", x.flush(), 0);
        check.due("count(1) with 150 bytes", x.count(1), 2);

        EventRecorder y = Check.running(51, 4, 2);
        fives(y, 0, 9);
        Check.event(y, 0, 1, 64);
        fives(y, 0, 31);
        Check.event(y, 1, 0);
        check.due("count(0)", y.count(0), 4);
        y.advance(7);
        check.due("flush()", y.flush(), 51);
        check.due("flush()", y.flush(), 50);
        check.due("count(1) with 101 bytes", y.count(1), 2);
        check.due("flush() to 151 bytes", y.flush(), 50);
        check.due("count(1) with 151 bytes", y.count(1), 3);
        check.due("count(2) of the new chunk", y.count(2), 0);
        check.due("count(0), as a rotation takes all", y.count(0), 0);
        check.due("buffered(0)", y.buffered(0), 0);
        check.due("buffered(1)", y.buffered(1), 0);
        check.due("count(3)", y.count(3), 1);
        check.due("flush()", y.flush(), 0);
        y.stop(0);
        check.due("dump(0)", y.dump(0), 4 + 210 + 2);
        check.due("events", y.output(3), 42);
    }

    private static void rotation() {
        check.in("promises 7 and 11 to 14, to rotate");
        EventRecorder x = Check.running(16, 3, 2);
        fives(x, 2, 4);
        fives(x, 1, 4);
        Check.event(x, 0, 0);
        x.advance(300);
        check.due("dump(0)", x.dump(0), 4 + 44 + 2);
        check.due("a byte of the first full buffer", x.output(4), 4);
        check.due("thread 0's bytes behind the full buffers", x.output(34), 3);
        check.due("thread 1's bytes behind them", x.output(38), 4);
        check.due("count(1)", x.count(1), 3);
        x.advance(1);
        check.due("dump(0) that keeps nothing new", x.dump(0), 50);
        check.due("count(1)", x.count(1), 4);
        check.due("count(3)", x.count(3), 1);
        Check.event(x, 0, 0);
        check.due("dump(0)", x.dump(0), 50 + 12);
        int[] second = {70, 4, 173, 2, 1, 4, 0, 173, 2, 0, 0, 0};
        for (int k = 0; k < second.length; k++) {
            check.due("byte " + k + " of chunk 4", x.output(50 + k), second[k]);
        }
        check.due("count(4)", x.count(4), 0);
        Check.event(x, 0, 0);
        x.dump(0);
        check.due("count(3)", x.count(3), 2);
        check.due("count(4)", x.count(4), 1);
        check.due("the number of the oldest that is kept", x.output(1), 4);
    }

    private static void bigEvents(EventRecorder x, int thread, int many, int answer) {
        for (int k = 0; k < many; k++) {
            check.due("an event of 20 bytes", Check.event(x, thread, 3, HIGH, HIGH, HIGH), answer);
        }
    }

    private static void fullestChunks() {
        check.in("promise 14, the fullest chunks");
        EventRecorder x = Check.running(60, 4, 5);
        x.advance(200);
        x.dump(0);
        for (int chunk = 1; chunk <= 5; chunk++) {
            for (int k = 0; k < 3; k++) {
                bigEvents(x, 0, 2, 0);
                check.due("an event of 10 bytes", Check.event(x, 0, 3, 8192), 0);
            }
            bigEvents(x, 0, 1, 0);
            for (int k = 0; k < 3; k++) {
                check.due("flush()", x.flush(), 50);
            }
            check.due("count(2)", x.count(2), 150);
            bigEvents(x, 0, 14, 0);
            bigEvents(x, 1, 3, 0);
            bigEvents(x, 2, 3, 0);
            check.due("count(0)", x.count(0), 4);
            for (int thread = 0; thread < 3; thread++) {
                bigEvents(x, thread, 1, 4);
            }
            check.due("dump(0)", x.dump(0), chunk * (5 + 570 + 12 + 2));
            check.due("count(0) after it rotated", x.count(0), 0);
        }
        int[] end = {3, 63, 0, 1, 3, 63, 1, 1, 3, 63, 2, 1, 0, 0};
        for (int k = 0; k < end.length; k++) {
            check.due("byte " + k + " of the end", x.output(5 * 589 - end.length + k), end[k]);
        }
    }

    private static void evictedStringsAreForgotten() {
        check.in("terms, strings that are used in a chunk");
        EventRecorder x = new EventRecorder(30, 1, 1);
        x.type(0, true);
        x.type(0, false);
        x.start(x.record());
        for (int k = 0; k < 4; k++) {
            Check.eventWith(x, 0, 0, "" + (char) (97 + k));
            x.dump(0);
            check.output(x, 70, 2 + k, 0, 1, 4, 0, 0, 0, k, 0, 1, k, 1, 97 + k);
        }
        Check.event(x, 0, 1);
        x.dump(0);
        check.output(x, 70, 6, 0, 1, 3, 1, 0, 0, 0, 0);
    }

    private static void losses() {
        check.in("terms, losses");
        EventRecorder x = Check.running(16, 0, 3);
        for (int k = 0; k < 130; k++) {
            check.due("a lost event", Check.event(x, 2, 3, HIGH, HIGH, HIGH), 4);
        }
        Check.event(x, 0, 3, HIGH, HIGH, HIGH);
        Check.event(x, 1, 0);
        x.dump(0);
        check.output(x, 70, 2, 0, 1, 3, 0, 0, 0, 3, 63, 0, 1, 4, 63, 2, 130, 1, 0, 0);
        check.due("lost(2)", x.lost(2), 130);
        x.dump(0);
        check.due("count(3) without new losses", x.count(3), 1);
        Check.event(x, 1, 3, HIGH, HIGH, HIGH);
        check.due("dump(0)", x.dump(0), 19 + 10);
        check.due("count(3) with a loss alone", x.count(3), 2);
        int[] second = {70, 4, 0, 0, 3, 63, 1, 1, 0, 0};
        for (int k = 0; k < second.length; k++) {
            check.due("byte " + k + " of chunk 4", x.output(19 + k), second[k]);
        }
        check.due("lost(1)", x.lost(1), 1);
    }

    private static void buffered() {
        check.in("promise 18, buffered");
        EventRecorder x = Check.running(20, 1, 1);
        int[] refused = {-1, 3, LOW, HIGH};
        for (int thread : refused) {
            check.due("buffered(" + thread + ")", x.buffered(thread), NONE);
        }
        Check.event(x, 0, 0);
        Check.event(x, 1, 1);
        Check.event(x, 2, 2);
        Check.event(x, 2, 3);
        check.due("buffered(0)", x.buffered(0), 4);
        check.due("buffered(1)", x.buffered(1), 5);
        check.due("buffered(2)", x.buffered(2), 13);
        check.due("an event", Check.event(x, 2, 3, 64), 0);
        check.due("buffered(2) after it became full", x.buffered(2), 8);
        x.dump(0);
        for (int thread = 0; thread < 3; thread++) {
            check.due("buffered(" + thread + ") after a rotation", x.buffered(thread), 0);
        }
    }

    private static void count() {
        check.in("promise 19, count");
        EventRecorder x = new EventRecorder(16, 2, 1);
        int[] refused = {-1, 6, 7, LOW, HIGH};
        for (int what : refused) {
            check.due("count(" + what + ")", x.count(what), NONE);
        }
        x.type(0, true);
        x.start(x.record());
        for (int k = 0; k < 7; k++) {
            Check.eventWith(x, 0, 0, "t" + k % 4);
        }
        x.flush();
        int[] first = {1, 2, 15, 0, 0, 4};
        for (int what = 0; what < 6; what++) {
            check.due("count(" + what + ")", x.count(what), first[what]);
        }
        x.dump(0);
        int[] second = {0, 3, 0, 1, 0, 4};
        for (int what = 0; what < 6; what++) {
            check.due("count(" + what + ") after a rotation", x.count(what), second[what]);
        }
        Check.eventWith(x, 0, 0, "more");
        x.stop(0);
        int[] third = {0, 4, 0, 1, 1, 5};
        for (int what = 0; what < 6; what++) {
            check.due("count(" + what + ") after an eviction", x.count(what), third[what]);
        }
    }

    private static void lost() {
        check.in("promise 20, lost");
        EventRecorder x = Check.running(16, 0, 1);
        int[] refused = {-1, 3, LOW, HIGH};
        for (int thread : refused) {
            check.due("lost(" + thread + ")", x.lost(thread), NONE);
        }
        for (int k = 0; k < 6; k++) {
            Check.event(x, 1, 0);
        }
        check.due("lost(0)", x.lost(0), 0);
        check.due("lost(1)", x.lost(1), 2);
        check.due("lost(2)", x.lost(2), 0);
        x.dump(0);
        check.due("lost(1) after a rotation", x.lost(1), 2);
        for (int k = 0; k < 5; k++) {
            Check.event(x, 1, 0);
        }
        check.due("lost(1) in all chunks", x.lost(1), 3);
        x.commit(1, 0, 0, 0, 0);
        x.commit(1, 9, 0, 0, 0);
        Check.settings(x, 0, "0-");
        Check.event(x, 1, 0);
        Check.settings(x, 0, "0+1");
        Check.event(x, 1, 0);
        check.due("lost(1) after events that nobody wants", x.lost(1), 3);
    }
}
