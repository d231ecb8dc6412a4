/** Counts the answers that are not due, and holds the small steps that many tests share. */
final class Check {
    interface Call {
        long answer();
    }

    private String place = "";
    private int checked = 0;
    private int wrong = 0;

    void in(String newPlace) {
        place = newPlace;
    }

    void due(String call, long got, long want) {
        checked++;
        if (got != want) {
            report(call + " answered " + got + ", due is " + want);
        }
    }

    void yes(String call, boolean got) {
        due(call, got ? 1 : 0, 1);
    }

    void no(String call, boolean got) {
        due(call, got ? 1 : 0, 0);
    }

    void badArgument(String call, Call made) {
        dueThrow(call, made, IllegalArgumentException.class);
    }

    void badState(String call, Call made) {
        dueThrow(call, made, IllegalStateException.class);
    }

    private void dueThrow(String call, Call made, Class<?> want) {
        checked++;
        try {
            report(call + " answered " + made.answer() + ", due is a throw of " + want.getSimpleName());
        } catch (RuntimeException e) {
            if (e.getClass() != want) {
                report(call + " threw " + e + ", due is " + want.getSimpleName());
            }
        }
    }

    /** The whole of what was written out, byte by byte, and nothing behind it. */
    void output(EventRecorder x, int... want) {
        for (int k = 0; k < want.length; k++) {
            due("output(" + k + ")", x.output(k), want[k]);
        }
        due("output(" + want.length + ")", x.output(want.length), EventRecorder.NONE);
        due("output(-1)", x.output(-1), EventRecorder.NONE);
    }

    /** A stretch of what was written out. */
    void outputFrom(EventRecorder x, int from, int... want) {
        for (int k = 0; k < want.length; k++) {
            due("output(" + (from + k) + ")", x.output(from + k), want[k]);
        }
    }

    /** Settings of a recording that is not closed are carried out only if no text stands before them. */
    void noText(String call, EventRecorder x, int recording) {
        due("the text after " + call + " is empty, profile()", profile(x, recording + ":0+"), 10);
    }

    void report(String fault) {
        wrong++;
        System.out.println(place + ": " + fault);
    }

    void end() {
        System.out.println(checked + " answers looked at, " + wrong + " wrong");
        if (wrong != 0) {
            System.exit(1);
        }
    }

    static void text(EventRecorder x, String characters) {
        for (int k = 0; k < characters.length(); k++) {
            x.write(characters.charAt(k));
        }
    }

    static int settings(EventRecorder x, int recording, String characters) {
        text(x, characters);
        return x.settings(recording);
    }

    static int profile(EventRecorder x, String characters) {
        text(x, characters);
        return x.profile();
    }

    /** An event that takes no time. */
    static int event(EventRecorder x, int thread, int type, int... ints) {
        x.begin(thread);
        int a = ints.length > 0 ? ints[0] : 0;
        int b = ints.length > 1 ? ints[1] : 0;
        int c = ints.length > 2 ? ints[2] : 0;
        return x.commit(thread, type, a, b, c);
    }

    static int eventWith(EventRecorder x, int thread, int type, String characters) {
        text(x, characters);
        return event(x, thread, type);
    }

    static void events(EventRecorder x, int thread, int type, int many) {
        for (int k = 0; k < many; k++) {
            event(x, thread, type);
        }
    }

    /** An event of 19 bytes, of a type with three ints, when NOW is below 128. */
    static int bigEvent(EventRecorder x, int thread, int type) {
        return event(x, thread, type, Integer.MAX_VALUE, Integer.MAX_VALUE, Integer.MAX_VALUE);
    }

    static int ticks(EventRecorder x, int thousands) {
        int now = x.advance(0);
        for (int k = 0; k < thousands; k++) {
            now = x.advance(1000);
        }
        return now;
    }

    /** A recorder with one running recording; types 0 (string), 1 (three ints, string), 2 (neither). */
    static EventRecorder withStrings(int size, int pool, int kept) {
        EventRecorder x = new EventRecorder(size, pool, kept);
        x.type(0, true);
        x.type(3, true);
        x.type(0, false);
        x.start(x.record());
        return x;
    }

    /** A recorder with one running recording and a type for each number of ints, without a string. */
    static EventRecorder running(int size, int pool, int kept) {
        EventRecorder x = new EventRecorder(size, pool, kept);
        for (int ints = 0; ints <= 3; ints++) {
            x.type(ints, false);
        }
        x.start(x.record());
        return x;
    }
}
