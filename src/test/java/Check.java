/** What the tests share: answers that are due, and texts written byte by byte. */
final class Check {
    private int asked = 0;
    private int wrong = 0;

    void due(String call, long got, long want) {
        asked++;
        if (got != want) {
            wrong++;
            if (wrong <= 50) {
                System.out.println(call + " answered " + got + ", due is " + want);
            }
        }
    }

    void end() {
        System.out.println(asked + " answers, " + wrong + " not as due");
        if (wrong != 0 || asked == 0) {
            System.exit(1);
        }
    }

    /** Puts a text behind THE TEXT, in pieces of eight bytes at most. */
    static void put(CoatsOnChairs x, String text) {
        for (int from = 0; from < text.length(); from += 8) {
            int to = Math.min(text.length(), from + 8);
            long v = 0;
            for (int k = from; k < to; k++) {
                v = v << 8 | text.charAt(k);
            }
            x.write(to - from, v);
        }
    }

    static CoatsOnChairs written(String text) {
        CoatsOnChairs x = new CoatsOnChairs();
        put(x, text);
        return x;
    }

    static CoatsOnChairs laid(String text) {
        CoatsOnChairs x = written(text);
        if (x.lay() < 1) {
            throw new IllegalStateException("not laid: " + text);
        }
        return x;
    }
}
