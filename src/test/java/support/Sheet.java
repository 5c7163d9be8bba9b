import java.util.NoSuchElementException;

/** What the tests of single sentences share: an object, texts for it, answers that are due. */
abstract class Sheet {
    static final int NONE = -1;
    static final int NO_WORTH = -2000000;
    static final long OUT_OF_BOUNDS = -1001;
    static final long NO_ELEMENT = -1002;

    /** Nine a SIDE: 0 .. 5 start, 6 and 7 wait, 8 is FREE; nobody has any SERVE, NET, BACK. */
    static final String BLANK_SQUADS = alike("ours", "abcdefghi", "0 0 0") + "free i;"
            + alike("theirs", "mnopqrstu", "0 0 0") + "free u;";
    static final String STARTS = "start ours a b c d e f;start theirs m n o p q r;";
    static final String BLANK = BLANK_SQUADS + STARTS;
    static final int BLANK_LINES = 22;

    final Check check = new Check();
    CourtSix x;
    private String sentence = "";

    /** The words of the document by which the answers that follow are due. */
    final void says(String words) {
        sentence = words;
    }

    final void due(String call, long got, long want) {
        check.due("\"" + sentence + "\": " + call, got, want);
    }

    final void due(String call, boolean got, boolean want) {
        due(call, got ? 1 : 0, want ? 1 : 0);
    }

    /** The answers to one question for several arguments in their order. */
    final void dueEach(String call, int[] got, int... want) {
        due(call + ", how many", got.length, want.length);
        for (int k = 0; k < Math.min(got.length, want.length); k++) {
            due(call + ", the " + k + ". of them", got[k], want[k]);
        }
    }

    /** A new object with a text that must be sound. */
    final void begin(String text) {
        x = new CourtSix();
        due("text() of " + text, Tape.tell(x, text) > 0, true);
        due("fault(0) of " + text, x.fault(0), 0);
        due("fault(1) of " + text, x.fault(1), NONE);
    }

    /** A text with a FAULT at the sign ^, which is no part of it. */
    final void faultAt(int kind, String marked) {
        int place = marked.indexOf('^');
        fault(kind, place, marked.substring(0, place) + marked.substring(place + 1));
    }

    final void fault(int kind, int place, String text) {
        x = new CourtSix();
        due("text() of " + text, Tape.tell(x, text), NONE);
        due("fault(0) of " + text, x.fault(0), kind);
        due("fault(1) of " + text, x.fault(1), place);
    }

    /** POINTS one by one, a sign 0 or 1 each. */
    final void play(String sides) {
        for (int k = 0; k < sides.length(); k++) {
            int side = sides.charAt(k) - '0';
            due("point " + k + " of " + sides, x.point(side), side);
        }
    }

    final long askPlayer(int side, int p, int what) {
        try {
            return x.player(side, p, what);
        } catch (IndexOutOfBoundsException e) {
            return OUT_OF_BOUNDS;
        } catch (NoSuchElementException e) {
            return NO_ELEMENT;
        }
    }

    /** Who is on the SPOTS 1 .. 6. */
    final int[] onCourt(int side) {
        int[] six = new int[6];
        for (int spot = 1; spot <= 6; spot++) {
            six[spot - 1] = x.on(side, spot);
        }
        return six;
    }

    final int[] lineUp(int side) {
        int[] six = new int[6];
        for (int spot = 1; spot <= 6; spot++) {
            six[spot - 1] = x.lineUp(side, spot);
        }
        return six;
    }

    /** LINES that tell like PLAYERS, a letter each. */
    static String alike(String side, String names, String skills) {
        StringBuilder lines = new StringBuilder();
        for (int k = 0; k < names.length(); k++) {
            lines.append(side).append(' ').append(names.charAt(k)).append(' ').append(skills).append(';');
        }
        return lines.toString();
    }

    /** LINES that tell PLAYERS, a letter each, with SERVE, NET, BACK of their own. */
    static String squad(String side, String names, String... skills) {
        StringBuilder lines = new StringBuilder();
        for (int k = 0; k < names.length(); k++) {
            lines.append(alike(side, names.substring(k, k + 1), skills[k]));
        }
        return lines.toString();
    }
}
