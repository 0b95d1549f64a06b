/** Counts answers that are as due, and types texts; every test program ends by end(). */
final class Due {
    private static int passed = 0;
    private static int failed = 0;
    private static String ofCase = "";

    private Due() {
    }

    /** What fails from now on is told by the name of this case. */
    static void begin(String name) {
        ofCase = name + ": ";
    }

    static void is(String what, long got, long want) {
        if (got == want) {
            passed++;
        } else {
            fails(what + ": answered " + got + ", due is " + want);
        }
    }

    static void same(String what, String got, String want) {
        if (got.equals(want)) {
            passed++;
        } else {
            fails(what + ": is " + got + ", due is " + want);
        }
    }

    static void fails(String what) {
        failed++;
        System.out.println(ofCase + what);
    }

    static void end(String name) {
        System.out.println(name + ": " + passed + " passed, " + failed + " failed");
        if (failed > 0 || passed == 0) {
            System.exit(1);
        }
    }

    /** Types a text by calls of at most 8 bytes: what the last one answered. */
    static int type(ShaftPlay x, String text) {
        int answer = 0;
        for (int from = 0; from < text.length(); from += 8) {
            String part = text.substring(from, Math.min(from + 8, text.length()));
            answer = x.type(packed(part), part.length());
        }
        return answer;
    }

    static long packed(String part) {
        long w = 0;
        for (char c : part.toCharArray()) {
            w = w << 8 | c;
        }
        return w;
    }

    static int cam(ShaftPlay x, String digits) {
        type(x, digits);
        return x.cam();
    }

    static int wish(ShaftPlay x, int figure, String signs) {
        type(x, signs);
        return x.wish(figure);
    }

    static ShaftPlay withCams(String... cams) {
        ShaftPlay x = new ShaftPlay();
        for (String digits : cams) {
            cam(x, digits);
        }
        return x;
    }

    static String hairs(ShaftPlay x, int cam) {
        StringBuilder digits = new StringBuilder();
        for (int angle = 0; angle < 12; angle++) {
            digits.append(x.told(cam, angle));
        }
        return digits.toString();
    }

    static void hairsAre(String what, ShaftPlay x, int cam, String want) {
        same(what, hairs(x, cam), want);
    }
}
