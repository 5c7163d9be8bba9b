import java.util.Random;

/** Random calls, right and wrong ones, on CourtSix and on the Model: every answer must be the same. */
public final class WalkTest {
    private static final String[] CHEAP = {"fault", "player", "on", "lineUp", "stand", "standing", "wrong",
        "now", "chance", "chanceAt", "bestMove", "streak", "weak", "strength", "together", "strong", "maySub",
        "mayMove", "subsNow", "ranked", "named", "run", "was", "till", "count"};
    private static final String[] DEAR = {"value", "valueAt", "table", "safe", "saddle", "reply", "worth",
        "ifSub", "bestSub", "likely", "ends", "length", "ifSwapped", "bestSwap"};
    private static final int[] ODD = {-2147483648, 2147483647, -1, -2, 6, 7, 12, 13, 26, 91, 1000};

    private final Check check = new Check();
    private final Random random = new Random(20261117);

    public static void main(String[] args) {
        WalkTest test = new WalkTest();
        for (int k = 0; k < 600 && test.check.wrongOnes() == 0; k++) {
            test.walk("walk " + k, k % 3 == 0 ? 25 : 3 + k % 9);
        }
        test.check.end();
    }

    private void walk(String label, int mostPoints) {
        Pair pair = new Pair(check, label);
        if (random.nextInt(10) == 0) {
            ask(pair, 20, false);
        }
        Writer writer = new Writer(random);
        pair.tell(writer.soundText(mostPoints));
        int calls = 0;
        while (calls < 360) {
            int rounds = 1 + random.nextInt(12);
            for (int k = 0; k < rounds; k++) {
                change(pair);
            }
            calls += rounds + 12;
            ask(pair, 12, random.nextInt(4) == 0);
            if (random.nextInt(60) == 0) {
                pair.tell(random.nextBoolean() ? writer.spoiltText() : writer.soundText(mostPoints));
            }
        }
    }

    private int side() {
        return random.nextInt(40) == 0 ? odd() : random.nextInt(2);
    }

    private int odd() {
        return ODD[random.nextInt(ODD.length)];
    }

    private int pick(int most) {
        return random.nextInt(40) == 0 ? odd() : random.nextInt(most + 1);
    }

    private void change(Pair pair) {
        int kind = random.nextInt(12);
        if (pair.m.now(3) == 1 && random.nextInt(4) != 0) {
            kind = 11;
        }
        if (kind < 5) {
            pair.call("point", side());
        } else if (kind < 8) {
            changeBySub(pair);
        } else if (kind < 10) {
            pair.call("move", side(), random.nextInt(8) == 0 ? pick(6) : new int[] {0, 1, 5, 6}[random.nextInt(4)]);
        } else if (kind == 10) {
            pair.call("stand", side(), pick(7), pick(91), pick(91));
        } else if (random.nextInt(3) == 0) {
            int times = random.nextInt(25);
            for (int k = 0; k < times; k++) {
                pair.call("undo");
            }
        } else {
            pair.call("undo");
        }
    }

    /** A SUB at random is seldom one that can be: the best one, or the way back, often is. */
    private void changeBySub(Pair pair) {
        int side = random.nextInt(2);
        int goes = random.nextInt(5) == 0 ? pick(12) : pair.m.on(side, 1 + random.nextInt(6));
        int comes = someone(pair, side);
        if (random.nextInt(3) == 0) {
            goes = pair.m.on(side, 1 + random.nextInt(6));
            comes = pair.m.player(side, goes, 6);
        }
        pair.call("sub", side, goes, comes);
    }

    private int someone(Pair pair, int side) {
        int size = Math.max(1, pair.m.count(side == 0 ? 4 : 5));
        return random.nextInt(30) == 0 ? odd() : random.nextInt(size);
    }

    private void ask(Pair pair, int times, boolean dear) {
        for (int k = 0; k < times; k++) {
            askOne(pair, CHEAP[random.nextInt(CHEAP.length)]);
        }
        if (dear) {
            askOne(pair, DEAR[random.nextInt(DEAR.length)]);
        }
    }

    private void askOne(Pair pair, String name) {
        int points = Math.max(3, pair.m.count(1));
        int side = side();
        switch (name) {
            case "player":
                pair.call(name, side, someone(pair, side), pick(8));
                break;
            case "on": case "lineUp": case "mayMove": case "reply":
                pair.call(name, side, pick(6));
                break;
            case "bestMove": case "strength": case "weak": case "strong": case "safe": case "bestSub":
            case "bestSwap":
                pair.call(name, side, pick(2));
                break;
            case "stand":
                pair.call(name, side, pick(7), pick(91), pick(91));
                break;
            case "standing": case "ifSwapped":
                pair.call(name, side, pick(7), name.equals("standing") ? pick(2) : pick(7));
                break;
            case "wrong": case "ends": case "streak":
                pair.call(name, side, pick(name.equals("wrong") ? 3 : points));
                break;
            case "chanceAt":
                pair.call(name, pick(6), pick(6), side);
                break;
            case "valueAt":
                pair.call(name, pick(points), pick(points), pick(5), pick(5), side);
                break;
            case "likely":
                pair.call(name, pick(points), pick(points));
                break;
            case "table":
                pair.call(name, pick(6), pick(6));
                break;
            case "maySub": case "ifSub":
                pair.call(name, side, someone(pair, side), someone(pair, side));
                break;
            case "together":
                pair.call(name, side, someone(pair, side), someone(pair, side), pick(2));
                break;
            case "till":
                pair.call(name, side, someone(pair, side), pick(7));
                break;
            case "ranked":
                pair.call(name, side, pick(13));
                break;
            case "named":
                pair.call(name, side, pick(27));
                break;
            case "was":
                pair.call(name, pick(20), pick(3));
                break;
            case "worth": case "subsNow":
                pair.call(name, side);
                break;
            default:
                pair.call(name, pick(9));
                break;
        }
    }
}
