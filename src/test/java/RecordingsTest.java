/** Promises 8 to 17: recordings, their settings, and what is written out. */
public final class RecordingsTest {
    private static final int NONE = EventRecorder.NONE;
    private static final int LOW = Integer.MIN_VALUE;
    private static final int HIGH = Integer.MAX_VALUE;
    private static final int[] NO_RECORDING = {-1, 1, 2, 3, 4, LOW, HIGH};
    private static final Check check = new Check();

    public static void main(String[] args) {
        record();
        settings();
        settingsThatAreNone();
        settingsThrow();
        profile();
        profileThatIsBad();
        profileOfWhatIsNotSettings();
        profileOfClosed();
        start();
        stop();
        close();
        dumpThrows();
        dumpChooses();
        dumpOfEvicted();
        output();
        state();
        threshold();
        check.end();
    }

    private static EventRecorder withTypes(int types, int recordings) {
        EventRecorder x = new EventRecorder(30, 2, 5);
        for (int k = 0; k < types; k++) {
            x.type(0, false);
        }
        for (int k = 0; k < recordings; k++) {
            x.record();
        }
        return x;
    }

    private static void record() {
        check.in("promise 8, record");
        EventRecorder x = new EventRecorder(20, 1, 1);
        for (int k = 0; k < 4; k++) {
            check.due("state(" + k + ") before", x.state(k), NONE);
            check.due("record()", x.record(), k);
            check.due("state(" + k + ")", x.state(k), 0);
        }
        check.badState("record() a fifth time", x::record);
        x.close(0);
        check.badState("record() when one is closed", x::record);
        check.due("state(4)", x.state(4), NONE);
        check.due("count(1)", x.count(1), 1);
    }

    private static void thresholds(EventRecorder x, int recording, int... want) {
        for (int type = 0; type < want.length; type++) {
            check.due("threshold(" + recording + ", " + type + ")", x.threshold(recording, type), want[type]);
        }
    }

    private static void settings() {
        check.in("promise 9, settings");
        EventRecorder x = withTypes(3, 2);
        thresholds(x, 0, 0, 0, 0, NONE);
        check.due("settings", Check.settings(x, 0, "0+10"), 1);
        thresholds(x, 0, 10, 0, 0);
        thresholds(x, 1, 0, 0, 0);
        check.due("settings", Check.settings(x, 0, "2-,1+999,0+7"), 3);
        thresholds(x, 0, 7, 999, NONE);
        check.due("settings", Check.settings(x, 0, "0-25"), 1);
        thresholds(x, 0, NONE, 999, NONE);
        check.due("settings that turn on again", Check.settings(x, 0, "0+,2+"), 2);
        thresholds(x, 0, 25, 999, 0);
        check.due("settings from left to right", Check.settings(x, 0, "1+5,1-6,1+"), 3);
        thresholds(x, 0, 25, 6, 0);
        check.due("settings with leading zeros", Check.settings(x, 0, "0+007,1+00,2+0"), 3);
        thresholds(x, 0, 7, 0, 0);
        check.due("settings of 40 characters",
            Check.settings(x, 1, "0+111,1+222,2+333,0+444,1+555,2+666,0-9,"
                .substring(0, 39) + "9"), 7);
        thresholds(x, 1, NONE, 555, 666);
        check.due("settings of 13 items", Check.settings(x, 1, "0+,0+,0+,0+,0+,0+,0+,0+,0+,0+,0+,0+,0+"), 13);
        thresholds(x, 1, 99, 555, 666);
        x.type(0, false);
        check.due("settings of a type declared later", Check.settings(x, 1, "3+4"), 1);
        thresholds(x, 1, 99, 555, 666, 4);
        thresholds(x, 0, 7, 0, 0, 0);
        x.start(0);
        check.due("settings of one that runs", Check.settings(x, 0, "0+8"), 1);
        x.stop(0);
        check.due("settings of one that is stopped", Check.settings(x, 0, "1+8"), 1);
        thresholds(x, 0, 8, 8, 0);
    }

    private static final String[] NOT_SETTINGS = {"", " ", ",", "0", "+", "-", "0*", "+0", "0+,", ",0+", "0+,,1+",
        "3+", "9-", "x+", "00+", "0+1234", "0+ 1", "0 +1", " 0+", "0+ ", "0++", "0+-1", "0+1,1", "0+1,1*", "0+1;1+",
        "0+1 ,1+", "0+1, 1+", "0+1,3+", "0+1,1+1000", "0:0+", "0+1|1+", "0-1x", "/+", ":+", "0+/", "0+:"};

    private static void settingsThatAreNone() {
        check.in("promise 9, texts that are not settings");
        for (String text : NOT_SETTINGS) {
            EventRecorder x = withTypes(3, 1);
            Check.settings(x, 0, "0+3,1+4,2-5");
            Check.text(x, text);
            check.badArgument("settings(0) of '" + text + "'", () -> x.settings(0));
            thresholds(x, 0, 3, 4, NONE);
            check.noText("settings(0) of '" + text + "'", x, 0);
        }
        EventRecorder none = withTypes(0, 1);
        Check.text(none, "0+");
        check.badArgument("settings(0) without types", () -> none.settings(0));
    }

    private static void settingsThrow() {
        check.in("promise 9, settings that throw");
        EventRecorder x = withTypes(1, 1);
        for (int recording : NO_RECORDING) {
            Check.text(x, "0+5");
            check.badArgument("settings(" + recording + ")", () -> x.settings(recording));
            check.noText("settings(" + recording + ")", x, 0);
        }
        thresholds(x, 0, 0);
        x.record();
        x.close(0);
        Check.text(x, "0+5");
        check.badState("settings(0) of a closed one", () -> x.settings(0));
        thresholds(x, 0, 0);
        check.noText("settings(0) of a closed one", x, 1);
        Check.text(x, "0*");
        check.badArgument("settings(0) of a closed one that are none", () -> x.settings(0));
        check.badArgument("settings(0) of a closed one without text", () -> x.settings(0));
        Check.text(x, "0+5");
        check.badArgument("settings(2)", () -> x.settings(2));
    }

    private static void profile() {
        check.in("promise 10, profile");
        EventRecorder x = withTypes(2, 3);
        check.due("profile()", Check.profile(x, "0:0+5"), 10);
        thresholds(x, 0, 5, 0);
        check.due("profile()", Check.profile(x, "2:0-,1+7|1:1-|2:0+8"), 30);
        thresholds(x, 0, 5, 0);
        thresholds(x, 1, 0, NONE);
        thresholds(x, 2, 8, 7);
        check.due("profile() of good and bad", Check.profile(x, "x|0:1+6||1:0+1234|1:1+3|3:0+|0:2+|"), 26);
        thresholds(x, 0, 5, 6);
        thresholds(x, 1, 0, 3);
        check.due("profile() whose text was taken", x.profile(), 1);
        check.due("profile() of eight parts", Check.profile(x, "0:0+|0:0+|0:0+|0:0+|0:0+|0:0+|0:0+|0:0+"), 80);
        check.due("profile() of a bad item behind a good one", Check.profile(x, "0:0+9,1*|1:0+4"), 11);
        thresholds(x, 0, 5, 6);
        thresholds(x, 1, 4, 3);
        check.due("profile() that turns on and off", Check.profile(x, "1:0-|1:0+|1:0-|0:1-2"), 40);
        thresholds(x, 0, 5, NONE);
        thresholds(x, 1, NONE, 3);
    }

    private static void profileThatIsBad() {
        check.in("promise 10, parts that are bad");
        EventRecorder x = withTypes(3, 1);
        Check.settings(x, 0, "0+3,1+4,2-5");
        check.due("profile() of an empty text", x.profile(), 1);
        String[] bad = {"0", "0:", ":", ":0+", "00:0+", " 0:0+", "0 :0+", "0;0+", "1:0+", "9:0+", "a:0+", "+:0+", "0:0:0+"};
        for (String text : bad) {
            check.due("profile() of '" + text + "'", Check.profile(x, text), 1);
            check.due("profile() of '" + text + "' amid others", Check.profile(x, "0:1+4|" + text + "|0:0+3"), 21);
        }
        thresholds(x, 0, 3, 4, NONE);
        check.due("profile() of |", Check.profile(x, "|"), 2);
        check.due("profile() of |||", Check.profile(x, "|||"), 4);
        check.due("profile() of 0:0+|", Check.profile(x, "0:0+|"), 11);
        check.due("profile() of |0:0+", Check.profile(x, "|0:0+"), 11);
    }

    private static void profileOfWhatIsNotSettings() {
        check.in("promise 10, parts with what is not settings");
        EventRecorder x = withTypes(3, 1);
        Check.settings(x, 0, "0+3,1+4,2-5");
        for (String text : NOT_SETTINGS) {
            if (text.indexOf('|') < 0) {
                check.due("profile() of '0:" + text + "'", Check.profile(x, "0:" + text), 1);
            }
        }
        thresholds(x, 0, 3, 4, NONE);
    }

    private static void profileOfClosed() {
        check.in("promise 10, closed recordings");
        EventRecorder x = withTypes(1, 4);
        x.start(1);
        x.start(2);
        x.stop(2);
        x.close(3);
        check.due("profile()", Check.profile(x, "0:0+1|1:0+2|2:0+3|3:0+4"), 31);
        thresholds(x, 0, 1);
        thresholds(x, 1, 2);
        thresholds(x, 2, 3);
        thresholds(x, 3, 0);
    }

    private static void start() {
        check.in("promise 11, start");
        EventRecorder x = withTypes(1, 1);
        for (int recording : NO_RECORDING) {
            check.badArgument("start(" + recording + ")", () -> x.start(recording));
        }
        check.due("count(1)", x.count(1), 1);
        x.advance(9);
        check.due("start(0)", x.start(0), 2);
        check.due("count(1)", x.count(1), 2);
        check.due("count(3)", x.count(3), 0);
        check.due("state(0)", x.state(0), 1);
        check.badState("start(0) of one that runs", () -> x.start(0));
        check.due("count(1) after a throw", x.count(1), 2);
        Check.event(x, 0, 0);
        x.record();
        x.advance(1);
        check.due("start(1)", x.start(1), 3);
        check.due("count(3)", x.count(3), 1);
        check.due("buffered(0)", x.buffered(0), 0);
        Check.event(x, 1, 0);
        check.due("dump(1)", x.dump(1), 10);
        check.output(x, 70, 3, 10, 1, 3, 0, 10, 0, 0, 0);
        check.due("dump(0)", x.dump(0), 20);
        check.output(x, 70, 2, 9, 1, 3, 0, 9, 0, 0, 0, 70, 3, 10, 1, 3, 0, 10, 0, 0, 0);
        x.stop(0);
        check.badState("start(0) of one that is stopped", () -> x.start(0));
        x.close(0);
        check.badState("start(0) of one that is closed", () -> x.start(0));
        check.due("state(0)", x.state(0), 3);
    }

    private static void stop() {
        check.in("promise 12, stop");
        EventRecorder x = withTypes(1, 1);
        for (int recording : NO_RECORDING) {
            check.badArgument("stop(" + recording + ")", () -> x.stop(recording));
        }
        check.badState("stop(0) of a new one", () -> x.stop(0));
        check.due("count(1)", x.count(1), 1);
        x.start(0);
        x.record();
        x.start(1);
        Check.event(x, 0, 0);
        check.due("stop(0)", x.stop(0), 3);
        check.due("state(0)", x.state(0), 2);
        check.due("count(1)", x.count(1), 4);
        check.due("count(3)", x.count(3), 1);
        check.due("buffered(0)", x.buffered(0), 0);
        check.badState("stop(0) again", () -> x.stop(0));
        check.due("count(1) after a throw", x.count(1), 4);
        Check.event(x, 0, 0);
        check.due("dump(1)", x.dump(1), 20);
        check.due("dump(0) without what came later", x.dump(0), 10);
        check.due("output(1)", x.output(1), 3);
        check.due("stop(1) that keeps nothing", x.stop(1), 5);
        check.due("count(1)", x.count(1), 6);
        check.due("count(3)", x.count(3), 2);
        x.close(0);
        check.badState("stop(0) of a closed one", () -> x.stop(0));
    }

    private static void close() {
        check.in("promise 13, close");
        EventRecorder x = withTypes(1, 1);
        for (int recording : NO_RECORDING) {
            check.badArgument("close(" + recording + ")", () -> x.close(recording) ? 1 : 0);
        }
        check.no("close(0) of a new one", x.close(0));
        check.due("state(0)", x.state(0), 3);
        check.due("count(1) without a rotation", x.count(1), 1);
        check.badState("close(0) again", () -> x.close(0) ? 1 : 0);
        x.record();
        x.record();
        x.start(1);
        x.start(2);
        Check.event(x, 0, 0);
        check.yes("close(1) of one that runs", x.close(1));
        check.due("state(1)", x.state(1), 3);
        check.due("count(1) after a rotation", x.count(1), 4);
        check.due("count(3)", x.count(3), 1);
        check.badState("close(1) again", () -> x.close(1) ? 1 : 0);
        Check.event(x, 0, 0);
        x.stop(2);
        Check.event(x, 0, 0);
        check.no("close(2) of one that is stopped", x.close(2));
        check.due("count(1) without a rotation", x.count(1), 5);
        check.due("state(2)", x.state(2), 3);
    }

    private static void dumpThrows() {
        check.in("promise 14, dump that throws");
        EventRecorder x = withTypes(1, 1);
        for (int recording : NO_RECORDING) {
            check.badArgument("dump(" + recording + ")", () -> x.dump(recording));
        }
        check.badState("dump(0) of a new one", () -> x.dump(0));
        x.start(0);
        Check.event(x, 0, 0);
        check.due("dump(0)", x.dump(0), 10);
        x.record();
        Check.event(x, 0, 0);
        check.badState("dump(1) of a new one", () -> x.dump(1));
        x.close(1);
        check.badState("dump(1) of a closed one", () -> x.dump(1));
        check.badArgument("dump(2)", () -> x.dump(2));
        check.due("buffered(0), as nothing rotated", x.buffered(0), 4);
        check.due("count(1)", x.count(1), 3);
        check.output(x, 70, 2, 0, 1, 3, 0, 0, 0, 0, 0);
        x.close(0);
        check.badState("dump(0) of a closed one", () -> x.dump(0));
        check.output(x, 70, 2, 0, 1, 3, 0, 0, 0, 0, 0);
    }

    private static void dumpChooses() {
        check.in("promise 14, the chunks that dump writes out");
        EventRecorder x = withTypes(3, 3);
        x.start(0);
        Check.event(x, 0, 0);
        x.start(1);
        Check.event(x, 0, 1);
        x.stop(0);
        Check.event(x, 0, 2);
        x.stop(1);
        check.due("count(1)", x.count(1), 5);
        x.start(2);
        check.due("dump(2) of nothing", x.dump(2), 0);
        check.output(x);
        check.due("dump(0)", x.dump(0), 20);
        check.output(x, 70, 2, 0, 1, 3, 0, 0, 0, 0, 0, 70, 3, 0, 1, 3, 1, 0, 0, 0, 0);
        check.due("dump(1)", x.dump(1), 20);
        check.output(x, 70, 3, 0, 1, 3, 1, 0, 0, 0, 0, 70, 4, 0, 1, 3, 2, 0, 0, 0, 0);
        Check.event(x, 1, 1);
        int open = x.count(1);
        check.due("dump(1) of a stopped one", x.dump(1), 20);
        check.due("count(1), as nothing rotated", x.count(1), open);
        check.due("buffered(1)", x.buffered(1), 4);
        check.due("dump(2) of one that runs", x.dump(2), 10);
        check.due("count(1), as it rotated", x.count(1), open + 1);
        check.due("buffered(1)", x.buffered(1), 0);
        check.output(x, 70, open, 0, 1, 3, 1, 0, 0, 0, 0);
        check.due("dump(2) again", x.dump(2), 10);
    }

    private static void dumpOfEvicted() {
        check.in("promise 14, dump after evictions");
        EventRecorder x = Check.running(16, 1, 2);
        for (int k = 0; k < 4; k++) {
            Check.event(x, 0, 1, k);
            x.dump(0);
        }
        check.output(x, 70, 4, 0, 1, 4, 1, 0, 0, 4, 0, 0, 70, 5, 0, 1, 4, 1, 0, 0, 6, 0, 0);
        x.stop(0);
        x.record();
        x.start(1);
        Check.event(x, 0, 0);
        x.dump(1);
        check.due("dump(0) with one of its chunks", x.dump(0), 11);
        Check.event(x, 0, 0);
        x.dump(1);
        check.due("dump(0) with none of its chunks", x.dump(0), 0);
        check.due("output(0)", x.output(0), NONE);
    }

    private static void output() {
        check.in("promise 15, output");
        EventRecorder x = Check.running(60, 1, 1);
        int[] refused = {-1, 0, 1, LOW, HIGH};
        for (int k : refused) {
            check.due("output(" + k + ") before a dump", x.output(k), NONE);
        }
        Check.event(x, 0, 1, -100);
        check.due("output(0) before a dump", x.output(0), NONE);
        check.due("dump(0)", x.dump(0), 12);
        int[] want = {70, 2, 0, 1, 5, 1, 0, 0, 199, 1, 0, 0};
        check.output(x, want);
        check.due("output(LOW)", x.output(LOW), NONE);
        check.due("output(HIGH)", x.output(HIGH), NONE);
        Check.event(x, 0, 0);
        x.flush();
        x.stop(0);
        check.output(x, want);
        check.due("dump(0)", x.dump(0), 10);
        check.output(x, 70, 3, 0, 1, 3, 0, 0, 0, 0, 0);
    }

    private static void state() {
        check.in("promise 16, state");
        EventRecorder x = withTypes(0, 1);
        for (int recording : NO_RECORDING) {
            check.due("state(" + recording + ")", x.state(recording), NONE);
        }
        check.due("state(0) of a new one", x.state(0), 0);
        x.start(0);
        check.due("state(0) of one that runs", x.state(0), 1);
        x.dump(0);
        check.due("state(0) after a dump", x.state(0), 1);
        x.stop(0);
        check.due("state(0) of one that is stopped", x.state(0), 2);
        x.record();
        check.due("state(1)", x.state(1), 0);
        x.close(0);
        check.due("state(0) of one that is closed", x.state(0), 3);
        check.due("state(1)", x.state(1), 0);
    }

    private static void threshold() {
        check.in("promise 17, threshold");
        EventRecorder x = withTypes(2, 1);
        for (int recording : NO_RECORDING) {
            check.due("threshold(" + recording + ", 0)", x.threshold(recording, 0), NONE);
        }
        int[] noType = {-1, 2, 5, 6, LOW, HIGH};
        for (int type : noType) {
            check.due("threshold(0, " + type + ")", x.threshold(0, type), NONE);
        }
        Check.settings(x, 0, "0+999,1-12");
        check.due("threshold(0, 0)", x.threshold(0, 0), 999);
        check.due("threshold(0, 1) when it is off", x.threshold(0, 1), NONE);
        Check.settings(x, 0, "1+");
        check.due("threshold(0, 1) when it is on again", x.threshold(0, 1), 12);
        x.close(0);
        check.due("threshold(0, 0) of a closed one", x.threshold(0, 0), 999);
    }
}
