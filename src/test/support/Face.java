/** The public face of the class, as it stands in the document. */
final class Face {
    static final String TEXT = """
        public final class HarpPedals {
            public static final int NONE = -1, UNKNOWN = -101, OUTSIDE = -102, STATE = -103, FULL = -104;
            public HarpPedals();
            public int letter(int code);
            public int blank();
            public int fault();
            public int part();
            public int chord(int chord, int what);
            public int as(int chord, int kind);
            public int tone(int pedal, int position);
            public int press(int pedal, int position);
            public int put(int place, int kind, int tones);
            public int take(int chord);
            public int swap(int one, int other);
            public int change(int chord, int kind);
            public int shift(int by);
            public int plan(int what);
            public int setting(int chord);
            public int reach(int chord);
            public int shifted(int by);
            public int leastShift();
            public int free();
            public int see(int chord, int what, boolean could);
            public int forget();
            public int drawn(int times, int seed, int what);
            public int image();
            public int restore();
            public int count(int what);
            public long digest();
        }
        """;

    private Face() {
    }
}
