/** Counts the answers that are not the due ones, and reads a text onto the tape. */
final class Due {
    private int wrong = 0;
    private int asked = 0;
    private String promise = "";

    void promise(int number) {
        promise = "promise " + number;
    }

    void terms(String sentence) {
        promise = "terms, " + sentence;
    }

    void is(String call, long got, long want) {
        asked++;
        if (got != want) {
            wrong++;
            System.out.println(promise + ": " + call + " answered " + got + ", due is " + want);
        }
    }

    void is(String call, boolean got, boolean want) {
        is(call, got ? 1 : 0, want ? 1 : 0);
    }

    void end() {
        System.out.println(asked + " answers, " + wrong + " not as due");
        if (wrong != 0) {
            System.exit(1);
        }
    }

    static int law(SlateSchool x, String text) {
        feed(x, text);
        return x.law(text.length());
    }

    /** Blanks fill what is left of the last twenty bytes. */
    static void feed(SlateSchool x, String text) {
        for (int from = 0; from < text.length(); from += 20) {
            x.feed(four(text, from), four(text, from + 4), four(text, from + 8), four(text, from + 12),
                    four(text, from + 16));
        }
    }

    static void feedBytes(SlateSchool x, int... bytes) {
        StringBuilder text = new StringBuilder();
        for (int b : bytes) {
            text.append((char) b);
        }
        feed(x, text.toString());
    }

    private static int four(String text, int from) {
        int number = 0;
        for (int i = from; i < from + 4; i++) {
            number = number << 8 | (i < text.length() ? text.charAt(i) & 255 : ' ');
        }
        return number;
    }
}
