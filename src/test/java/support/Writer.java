import java.util.ArrayList;
import java.util.Collections;
import java.util.List;
import java.util.Random;

/** Writes texts at random, sound ones and spoilt ones. */
final class Writer {
    private final Random random;

    Writer(Random random) {
        this.random = random;
    }

    private int upTo(int most) {
        return random.nextInt(most + 1);
    }

    String soundText(int mostPoints) {
        List<String> names = new ArrayList<>();
        for (char c = 'a'; c <= 'z'; c++) {
            names.add(random.nextInt(4) == 0 ? "q" + c + "xyzz".substring(random.nextInt(4)) : "" + c);
        }
        Collections.shuffle(names, random);
        List<List<String>> teams = List.of(new ArrayList<>(names.subList(0, 6 + upTo(6))),
                new ArrayList<>(names.subList(13, 13 + 6 + upTo(6))));
        List<String> lines = new ArrayList<>();
        int most = random.nextInt(3) == 0 ? 5 : 99;
        for (int side = 0; side < 2; side++) {
            for (String name : teams.get(side)) {
                lines.add(side(side) + " " + name + " " + number(most) + " " + number(most) + " " + number(most));
            }
        }
        Collections.shuffle(lines, random);
        if (mostPoints < 25 || random.nextBoolean()) {
            insert(lines, "points " + (3 + upTo(mostPoints - 3)));
        }
        if (random.nextBoolean()) {
            insert(lines, "subs " + upTo(12));
        }
        if (random.nextInt(3) != 0) {
            insert(lines, "edge " + upTo(300));
        }
        if (random.nextBoolean()) {
            insert(lines, "first " + side(random.nextInt(2)));
        }
        for (int side = 0; side < 2; side++) {
            tellStart(lines, side, teams.get(side));
        }
        return join(lines);
    }

    private void tellStart(List<String> lines, int side, List<String> team) {
        List<String> order = new ArrayList<>(team);
        Collections.shuffle(order, random);
        String start = "start " + side(side) + " " + String.join(" ", order.subList(0, 6));
        List<String> tail = new ArrayList<>(List.of(start));
        if (order.size() > 6 && random.nextInt(5) != 0) {
            tail.add(random.nextInt(2), "free " + order.get(6));
        }
        lines.addAll(tail);
    }

    private static String side(int side) {
        return side == 0 ? "ours" : "theirs";
    }

    private String number(int most) {
        int n = random.nextInt(6) == 0 ? most : upTo(most);
        return random.nextInt(20) == 0 ? "0" + n : "" + n;
    }

    private void insert(List<String> lines, String line) {
        lines.add(upTo(lines.size()), line);
    }

    private String join(List<String> lines) {
        StringBuilder text = new StringBuilder();
        boolean airy = random.nextInt(8) == 0;
        for (String line : lines) {
            text.append(line.replace(" ", airy && random.nextBoolean() ? "\n " : " "));
            text.append(airy ? " ;\n" : ";");
        }
        return text.toString();
    }

    /** A sound text with one to three small damages. */
    String spoiltText() {
        List<String> parts = new ArrayList<>(List.of(
                soundText(25).split("(?<=[; \\n])|(?=[; \\n])")));
        int damages = 1 + upTo(2);
        for (int k = 0; k < damages; k++) {
            spoil(parts);
        }
        String text = String.join("", parts);
        return random.nextInt(6) == 0 ? text.substring(0, upTo(text.length())) : text;
    }

    private void spoil(List<String> parts) {
        String[] odd = {"points", "subs", "edge", "ours", "theirs", "free", "start", "first", ";", "a", "q",
            "100", "301", "26", "2", "13", "99999999999", "toolong", "sixsix", "A", "\t", "-", "\u00e9", "z9", "3a",
            "points 3;", "points 26;", "subs 13;", "edge 301;", "first ours;", "first", "free a;", "ours a 1 1 1;",
            "theirs b 1 1 1;", "start ours", ";;", " ", "\n"};
        int at = random.nextInt(parts.size());
        String piece = odd[random.nextInt(odd.length)];
        switch (random.nextInt(6)) {
            case 0:
                parts.set(at, piece);
                break;
            case 1:
                parts.add(at, piece + (random.nextBoolean() ? " " : ""));
                break;
            case 2:
                parts.remove(at);
                break;
            case 3:
                parts.set(at, parts.get(random.nextInt(parts.size())));
                break;
            case 4:
                Collections.swap(parts, at, random.nextInt(parts.size()));
                break;
            default:
                repeatLine(parts, at);
                break;
        }
        if (parts.isEmpty()) {
            parts.add(" ");
        }
    }

    private void repeatLine(List<String> parts, int at) {
        String[] lines = String.join("", parts).split("(?<=;)");
        String line = lines[random.nextInt(lines.length)];
        int from = at;
        while (from < parts.size() && !parts.get(from).equals(";")) {
            from++;
        }
        parts.add(Math.min(from + 1, parts.size()), line);
    }
}
