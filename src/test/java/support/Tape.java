/** Feeds texts to an object. */
final class Tape {
    private Tape() {
    }

    /** Feeds a text (blanks behind it up to twenty bytes) and reads just it: what text() answers. */
    static int tell(CourtSix x, String text) {
        feed(x, text);
        return x.text(text.length());
    }

    static void feed(CourtSix x, String text) {
        for (int at = 0; at < text.length(); at += 20) {
            x.feed(number(text, at), number(text, at + 4), number(text, at + 8),
                    number(text, at + 12), number(text, at + 16));
        }
    }

    static int number(String text, int at) {
        int number = 0;
        for (int k = at; k < at + 4; k++) {
            number = number << 8 | (k < text.length() ? text.charAt(k) : ' ');
        }
        return number;
    }

    /** named()'s number of a name. */
    static int name(String word) {
        int number = 0;
        for (int k = 0; k < word.length(); k++) {
            number = number * 32 + word.charAt(k) - 'a' + 1;
        }
        return number;
    }
}
