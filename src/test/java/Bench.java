/** What the tests share: feeding a text or bytes, and counting answers that are not as due. */
final class Bench {
    private static int wrong = 0;
    private static int asked = 0;

    private Bench() {
    }

    /** Feeds bytes in twenties, the last ones filled up with 'a'; the answer of the last feed. */
    static int feed(PeacockDesk desk, int... bytes) {
        int answer = 0;
        for (int from = 0; from < bytes.length; from += 20) {
            int[] five = five(bytes, from);
            answer = desk.feed(five[0], five[1], five[2], five[3], five[4]);
        }
        return answer;
    }

    static int[] five(int[] bytes, int from) {
        int[] five = new int[5];
        for (int i = 0; i < 20; i++) {
            int b = from + i < bytes.length ? bytes[from + i] : 'a';
            five[i / 4] = five[i / 4] << 8 | b & 255;
        }
        return five;
    }

    static int[] bytes(String text) {
        int[] bytes = new int[text.length()];
        for (int i = 0; i < bytes.length; i++) {
            bytes[i] = text.charAt(i);
        }
        return bytes;
    }

    static int law(PeacockDesk desk, String text) {
        feed(desk, bytes(text));
        return desk.law(text.length());
    }

    static int docket(PeacockDesk desk, String text) {
        feed(desk, bytes(text));
        return desk.docket(text.length());
    }

    static int ballots(PeacockDesk desk, int ministers, String text, int what) {
        feed(desk, bytes(text));
        return desk.ballots(ministers, text.length(), what);
    }

    static void due(String call, long got, long want) {
        asked++;
        if (got != want) {
            wrong++;
            System.out.println(call + " answered " + got + ", due is " + want);
        }
    }

    static void due(String call, boolean got, boolean want) {
        due(call, got ? 1 : 0, want ? 1 : 0);
    }

    static void end(String name) {
        System.out.println(name + ": " + asked + " answers, " + wrong + " not as due");
        if (wrong != 0) {
            System.exit(1);
        }
    }
}
