/** Counts the answers that are not as due, and ends a test with exit code 1 if there was one. */
final class Check {
    private final String name;
    private int asked;
    private int wrong;

    Check(String name) {
        this.name = name;
    }

    void due(String call, long got, long want) {
        asked++;
        if (got != want) {
            wrong++;
            if (wrong <= 50) {
                System.out.println(call + " answered " + got + ", due is " + want);
            }
        }
    }

    void holds(String what, boolean is) {
        due(what, is ? 1 : 0, 1);
    }

    void close() {
        System.out.println(name + ": " + asked + " asked, " + wrong + " not as due");
        if (wrong != 0 || asked == 0) {
            System.exit(1);
        }
    }

    static int tell(HeelDance x, String text) {
        for (int i = 0; i < text.length(); i++) {
            x.feed(text.charAt(i));
        }
        return x.text();
    }

    static HeelDance told(String text) {
        HeelDance x = new HeelDance();
        if (tell(x, text) < 0) {
            throw new IllegalStateException("the test's own text is faulty: " + text);
        }
        return x;
    }
}
