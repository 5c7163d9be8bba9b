import java.util.Random;

/** Texts with faults: which one, and its place, by CourtSix and by the Model. */
public final class SpoiltTextTest {
    public static void main(String[] args) {
        Check check = new Check();
        Random random = new Random(46);
        Writer writer = new Writer(random);
        int[] faults = new int[5];
        Pair pair = new Pair(check, "spoilt");
        for (int k = 0; k < 60000 && check.wrongOnes() == 0; k++) {
            if (k % 500 == 0) {
                pair = new Pair(check, "spoilt");
            }
            String text = writer.spoiltText();
            if (text.length() > 900) {
                continue;
            }
            pair.tell(text);
            faults[pair.m.fault(0)]++;
            if (check.wrongOnes() != 0) {
                System.out.println(text);
            }
            pair.call("count", k % 9);
            pair.call("on", k % 2, 1 + k % 6);
        }
        for (int kind = 0; kind < faults.length; kind++) {
            check.due("texts with fault " + kind + " (" + faults[kind] + ") are more than a hundred",
                    faults[kind] > 100, true);
        }
        check.end();
    }
}
