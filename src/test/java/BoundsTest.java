import java.lang.reflect.InvocationTargetException;
import java.lang.reflect.Method;
import java.util.Arrays;
import java.util.NoSuchElementException;

/**
 * Each argument of each call, all others as they may be: one below the least, one above the greatest, the farthest
 * numbers there are. The refusal must come at first, in the set and when it is OVER; the least and the greatest
 * must not be refused.
 */
public final class BoundsTest extends Sheet {
    private static final int POINTS = 9;
    private static final int LAST = 8;
    /** For an argument that has no greatest. */
    private static final int ANY = Integer.MAX_VALUE;

    public static void main(String[] args) throws ReflectiveOperationException {
        BoundsTest test = new BoundsTest();
        test.says("no such ones");
        String text = "points " + POINTS + ";" + BLANK;
        test.begin(text);
        test.askAll(POINTS, POINTS);
        test.begin(text);
        test.play("0110101");
        test.x.sub(0, 1, 6);
        test.x.move(1, 6);
        test.askAll(POINTS - 3, POINTS - 4);
        test.play("11111");
        test.due("over", test.x.now(3), 1);
        test.askAll(0, 0);
        test.check.end();
    }

    /** How many POINTS each SIDE needs for the set, 0 if it is OVER: streak() answers for so many. */
    private void askAll(int oursNeed, int theirsNeed) throws ReflectiveOperationException {
        int undoable = x.count(6);
        askWho();
        askHowItStands();
        askOdds();
        bounds("streak", NONE, new int[] {0, 0}, new int[] {0, 0}, new int[] {1, oursNeed});
        bounds("streak", NONE, new int[] {1, 0}, new int[] {0, 0}, new int[] {1, theirsNeed});
        due("nothing of this was done", x.count(6), undoable);
    }

    private void askWho() throws ReflectiveOperationException {
        bounds("player", OUT_OF_BOUNDS, new int[] {0, 0, 0}, new int[] {0, 0, ANY}, new int[] {1, LAST, ANY});
        bounds("player", NO_ELEMENT, new int[] {0, 0, 0}, new int[] {ANY, ANY, 0}, new int[] {ANY, ANY, 7});
        bounds("on", NONE, new int[] {0, 1}, new int[] {0, 1}, new int[] {1, 6});
        bounds("lineUp", NONE, new int[] {0, 1}, new int[] {0, 1}, new int[] {1, 6});
        bounds("strength", NONE, new int[] {0, 0}, new int[] {0, 0}, new int[] {1, 2});
        bounds("together", NONE, new int[] {0, 2, 3, 0}, new int[] {0, 0, 0, 0}, new int[] {1, LAST, LAST, 1});
        bounds("till", NONE, new int[] {0, 0, 1}, new int[] {0, 0, 1}, new int[] {1, LAST, 6});
        bounds("ranked", NONE, new int[] {0, 0}, new int[] {0, 0}, new int[] {1, ANY});
        bounds("named", NONE, new int[] {0, 1}, new int[] {0, ANY}, new int[] {1, ANY});
    }

    private void askHowItStands() throws ReflectiveOperationException {
        refusals("point", NONE, new int[] {0}, new int[] {0}, new int[] {1});
        refusals("sub", NONE, new int[] {0, 0, 6}, new int[] {0, 0, 0}, new int[] {1, LAST, LAST});
        refusals("move", NONE, new int[] {0, 5}, new int[] {0, 0}, new int[] {1, 6});
        refusals("stand", 0, new int[] {0, 1, 5, 5}, new int[] {0, 1, 0, 0}, new int[] {1, 6, 90, 90});
        bounds("maySub", NONE, new int[] {0, 0, 6}, new int[] {0, 0, 0}, new int[] {1, LAST, LAST});
        bounds("mayMove", NONE, new int[] {0, 5}, new int[] {0, 0}, new int[] {1, 6});
        bounds("subsNow", NONE, new int[] {0}, new int[] {0}, new int[] {1});
        bounds("standing", NONE, new int[] {0, 1, 0}, new int[] {0, 1, 0}, new int[] {1, 6, 1});
        bounds("wrong", NONE, new int[] {0, 0}, new int[] {0, 0}, new int[] {1, ANY});
        bounds("now", NONE, new int[] {0}, new int[] {0}, new int[] {8});
        bounds("run", NONE, new int[] {0}, new int[] {0}, new int[] {4});
        bounds("was", NONE, new int[] {0, 0}, new int[] {0, 0}, new int[] {ANY, 2});
        bounds("count", NONE, new int[] {0}, new int[] {0}, new int[] {7});
        refusals("fault", NONE, new int[] {0}, new int[] {0}, new int[] {1});
    }

    private void askOdds() throws ReflectiveOperationException {
        bounds("chanceAt", NONE, new int[] {0, 0, 0}, new int[] {0, 0, 0}, new int[] {5, 5, 1});
        bounds("valueAt", NONE, new int[] {0, 0, 0, 0, 0}, new int[] {0, 0, 0, 0, 0}, new int[] {POINTS, POINTS, 5, 5, 1});
        bounds("table", NONE, new int[] {0, 0}, new int[] {0, 0}, new int[] {5, 5});
        bounds("safe", NONE, new int[] {0, 0}, new int[] {0, 0}, new int[] {1, 1});
        bounds("reply", NONE, new int[] {0, 0}, new int[] {0, 0}, new int[] {1, 5});
        refusals("worth", NO_WORTH, new int[] {0}, new int[] {0}, new int[] {1});
        bounds("ifSub", NONE, new int[] {0, 0, 6}, new int[] {0, 0, 0}, new int[] {1, LAST, LAST});
        bounds("bestSub", NONE, new int[] {0, 0}, new int[] {0, 0}, new int[] {1, 2});
        bounds("bestMove", NONE, new int[] {0, 0}, new int[] {0, 0}, new int[] {1, 1});
        bounds("likely", NONE, new int[] {0, 0}, new int[] {0, 0}, new int[] {POINTS, POINTS});
        bounds("ends", NONE, new int[] {0, 0}, new int[] {0, 0}, new int[] {1, POINTS - 1});
        bounds("weak", NONE, new int[] {0, 0}, new int[] {0, 0}, new int[] {1, 1});
        bounds("strong", NONE, new int[] {0, 0}, new int[] {0, 0}, new int[] {1, 1});
        bounds("ifSwapped", NONE, new int[] {0, 3, 4}, new int[] {0, 1, 1}, new int[] {1, 6, 6});
        bounds("bestSwap", NONE, new int[] {0, 0}, new int[] {0, 0}, new int[] {1, 2});
    }

    private void bounds(String name, long refusal, int[] right, int[] least, int[] most) throws ReflectiveOperationException {
        refusals(name, refusal, right, least, most);
        for (int k = 0; k < right.length; k++) {
            if (least[k] != ANY) {
                notRefused(name, refusal, with(right, k, least[k]));
            }
            if (most[k] != ANY) {
                notRefused(name, refusal, with(right, k, most[k]));
            }
        }
    }

    private void refusals(String name, long refusal, int[] right, int[] least, int[] most) throws ReflectiveOperationException {
        for (int k = 0; k < right.length; k++) {
            if (least[k] != ANY) {
                refused(name, refusal, with(right, k, least[k] - 1));
                refused(name, refusal, with(right, k, Integer.MIN_VALUE));
            }
            if (most[k] != ANY) {
                refused(name, refusal, with(right, k, most[k] + 1));
                refused(name, refusal, with(right, k, Integer.MAX_VALUE));
            }
        }
    }

    private void refused(String name, long refusal, int[] args) throws ReflectiveOperationException {
        due(name + Arrays.toString(args), ask(name, args), refusal);
    }

    private void notRefused(String name, long refusal, int[] args) throws ReflectiveOperationException {
        due(name + Arrays.toString(args) + " is not refused", ask(name, args) != refusal, true);
    }

    private static int[] with(int[] right, int k, int other) {
        int[] args = right.clone();
        args[k] = other;
        return args;
    }

    private long ask(String name, int[] args) throws ReflectiveOperationException {
        Class<?>[] types = new Class<?>[args.length];
        Arrays.fill(types, int.class);
        Method method = CourtSix.class.getMethod(name, types);
        Object[] boxed = Arrays.stream(args).boxed().toArray();
        try {
            Object answer = method.invoke(x, boxed);
            return answer instanceof Boolean ? ((Boolean) answer ? 1 : 0) : (Integer) answer;
        } catch (InvocationTargetException e) {
            return numberOf(e.getCause());
        }
    }

    private static long numberOf(Throwable thrown) {
        if (thrown.getClass() == IndexOutOfBoundsException.class) {
            return OUT_OF_BOUNDS;
        }
        return thrown.getClass() == NoSuchElementException.class ? NO_ELEMENT : Long.MIN_VALUE;
    }
}
