import java.util.NoSuchElementException;

/** A CourtSix and a Model that get the same calls; each answer of the one is held against the other. */
final class Pair {
    private static final long OUT_OF_BOUNDS = 1L << 40;
    private static final long NO_ELEMENT = 2L << 40;

    final CourtSix x = new CourtSix();
    final Model m = new Model();
    private final Check check;
    private final String label;

    Pair(Check check, String label) {
        this.check = check;
        this.label = label;
    }

    private static long flag(boolean b) {
        return b ? 1 : 0;
    }

    private long playerOf(int side, int p, int what) {
        try {
            return x.player(side, p, what);
        } catch (IndexOutOfBoundsException e) {
            return OUT_OF_BOUNDS;
        } catch (NoSuchElementException e) {
            return NO_ELEMENT;
        }
    }

    private long modelPlayerOf(int side, int p, int what) {
        try {
            return m.player(side, p, what);
        } catch (IndexOutOfBoundsException e) {
            return OUT_OF_BOUNDS;
        } catch (NoSuchElementException e) {
            return NO_ELEMENT;
        }
    }

    /** Calls both: v holds as many arguments as the method takes, and more. */
    long call(String name, int... v) {
        long want = want(name, v);
        check.due(label + " " + name + java.util.Arrays.toString(v), got(name, v), want);
        return want;
    }

    void tell(String text) {
        for (int at = 0; at < text.length(); at += 20) {
            call("feed", Tape.number(text, at), Tape.number(text, at + 4), Tape.number(text, at + 8),
                    Tape.number(text, at + 12), Tape.number(text, at + 16));
        }
        call("text", text.length());
        call("fault", 0);
        call("fault", 1);
    }

    private long got(String name, int[] v) {
        switch (name) {
            case "feed": return x.feed(v[0], v[1], v[2], v[3], v[4]);
            case "text": return x.text(v[0]);
            case "fault": return x.fault(v[0]);
            case "player": return playerOf(v[0], v[1], v[2]);
            case "on": return x.on(v[0], v[1]);
            case "lineUp": return x.lineUp(v[0], v[1]);
            case "point": return x.point(v[0]);
            case "sub": return x.sub(v[0], v[1], v[2]);
            case "move": return x.move(v[0], v[1]);
            case "stand": return flag(x.stand(v[0], v[1], v[2], v[3]));
            case "standing": return x.standing(v[0], v[1], v[2]);
            case "wrong": return x.wrong(v[0], v[1]);
            case "undo": return x.undo();
            case "now": return x.now(v[0]);
            case "chance": return x.chance();
            case "chanceAt": return x.chanceAt(v[0], v[1], v[2]);
            case "value": return x.value();
            case "valueAt": return x.valueAt(v[0], v[1], v[2], v[3], v[4]);
            case "table": return x.table(v[0], v[1]);
            case "safe": return x.safe(v[0], v[1]);
            case "saddle": return x.saddle();
            case "reply": return x.reply(v[0], v[1]);
            case "worth": return x.worth(v[0]);
            case "ifSub": return x.ifSub(v[0], v[1], v[2]);
            case "bestSub": return x.bestSub(v[0], v[1]);
            case "bestMove": return x.bestMove(v[0], v[1]);
            case "likely": return x.likely(v[0], v[1]);
            case "ends": return x.ends(v[0], v[1]);
            case "length": return x.length();
            case "streak": return x.streak(v[0], v[1]);
            case "weak": return x.weak(v[0], v[1]);
            case "ifSwapped": return x.ifSwapped(v[0], v[1], v[2]);
            case "strength": return x.strength(v[0], v[1]);
            case "together": return x.together(v[0], v[1], v[2], v[3]);
            case "strong": return x.strong(v[0], v[1]);
            case "maySub": return x.maySub(v[0], v[1], v[2]);
            case "mayMove": return x.mayMove(v[0], v[1]);
            case "subsNow": return x.subsNow(v[0]);
            case "bestSwap": return x.bestSwap(v[0], v[1]);
            case "ranked": return x.ranked(v[0], v[1]);
            case "named": return x.named(v[0], v[1]);
            case "run": return x.run(v[0]);
            case "was": return x.was(v[0], v[1]);
            case "till": return x.till(v[0], v[1], v[2]);
            case "count": return x.count(v[0]);
            default: throw new IllegalArgumentException(name);
        }
    }

    private long want(String name, int[] v) {
        switch (name) {
            case "feed": return m.feed(v[0], v[1], v[2], v[3], v[4]);
            case "text": return m.text(v[0]);
            case "fault": return m.fault(v[0]);
            case "player": return modelPlayerOf(v[0], v[1], v[2]);
            case "on": return m.on(v[0], v[1]);
            case "lineUp": return m.lineUp(v[0], v[1]);
            case "point": return m.point(v[0]);
            case "sub": return m.sub(v[0], v[1], v[2]);
            case "move": return m.move(v[0], v[1]);
            case "stand": return flag(m.stand(v[0], v[1], v[2], v[3]));
            case "standing": return m.standing(v[0], v[1], v[2]);
            case "wrong": return m.wrong(v[0], v[1]);
            case "undo": return m.undo();
            case "now": return m.now(v[0]);
            case "chance": return m.chance();
            case "chanceAt": return m.chanceAt(v[0], v[1], v[2]);
            case "value": return m.value();
            case "valueAt": return m.valueAt(v[0], v[1], v[2], v[3], v[4]);
            case "table": return m.table(v[0], v[1]);
            case "safe": return m.safe(v[0], v[1]);
            case "saddle": return m.saddle();
            case "reply": return m.reply(v[0], v[1]);
            case "worth": return m.worth(v[0]);
            case "ifSub": return m.ifSub(v[0], v[1], v[2]);
            case "bestSub": return m.bestSub(v[0], v[1]);
            case "bestMove": return m.bestMove(v[0], v[1]);
            case "likely": return m.likely(v[0], v[1]);
            case "ends": return m.ends(v[0], v[1]);
            case "length": return m.length();
            case "streak": return m.streak(v[0], v[1]);
            case "weak": return m.weak(v[0], v[1]);
            case "ifSwapped": return m.ifSwapped(v[0], v[1], v[2]);
            case "strength": return m.strength(v[0], v[1]);
            case "together": return m.together(v[0], v[1], v[2], v[3]);
            case "strong": return m.strong(v[0], v[1]);
            case "maySub": return m.maySub(v[0], v[1], v[2]);
            case "mayMove": return m.mayMove(v[0], v[1]);
            case "subsNow": return m.subsNow(v[0]);
            case "bestSwap": return m.bestSwap(v[0], v[1]);
            case "ranked": return m.ranked(v[0], v[1]);
            case "named": return m.named(v[0], v[1]);
            case "run": return m.run(v[0]);
            case "was": return m.was(v[0], v[1]);
            case "till": return m.till(v[0], v[1], v[2]);
            case "count": return m.count(v[0]);
            default: throw new IllegalArgumentException(name);
        }
    }
}
