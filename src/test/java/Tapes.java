/** Texts as the calls of feed. */
final class Tapes {
    private Tapes() {
    }

    /** The i-th number of a text that blanks fill up to a multiple of twenty bytes. */
    static int number(String text, int i) {
        int number = 0;
        for (int b = 4 * i; b < 4 * i + 4; b++) {
            number = number << 8 | (b < text.length() ? text.charAt(b) & 255 : 32);
        }
        return number;
    }

    static int feed(SevenLeague x, String text) {
        int answer = x.size(10);
        for (int i = 0; 4 * i < text.length(); i += 5) {
            answer = x.feed(number(text, i), number(text, i + 1), number(text, i + 2), number(text, i + 3), number(text, i + 4));
        }
        return answer;
    }

    static int feed(Model x, String text) {
        int answer = x.size(10);
        for (int i = 0; 4 * i < text.length(); i += 5) {
            answer = x.feed(number(text, i), number(text, i + 1), number(text, i + 2), number(text, i + 3), number(text, i + 4));
        }
        return answer;
    }

    static SevenLeague landed(String text) {
        SevenLeague x = new SevenLeague();
        feed(x, text);
        x.land(text.length());
        return x;
    }
}
