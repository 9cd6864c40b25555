/** Counts wrong answers and tells each; a test ends by close(). */
final class Check {
    private final String name;
    private int asked;
    private int wrong;

    Check(String name) {
        this.name = name;
    }

    void due(String call, long got, long want) {
        asked++;
        if (got != want) {
            wrong++;
            if (wrong <= 40) {
                System.out.println(name + ": " + call + " answered " + got + ", due is " + want);
            }
        }
    }

    void close() {
        System.out.println(name + ": " + asked + " asked, " + wrong + " wrong");
        if (wrong != 0 || asked == 0) {
            System.exit(1);
        }
    }

    static void tell(StrokeSeek seek, String text) {
        for (int i = 0; i < text.length(); i++) {
            seek.type(text.charAt(i));
        }
    }

    static StrokeSeek read(String text) {
        StrokeSeek seek = new StrokeSeek();
        tell(seek, text);
        int answer = seek.field();
        if (answer < 0) {
            throw new IllegalStateException("the test's own text is faulty: " + text + " " + answer);
        }
        return seek;
    }
}
