import java.util.ArrayDeque;
import java.util.ArrayList;
import java.util.Arrays;
import java.util.Deque;
import java.util.HashMap;
import java.util.HashSet;
import java.util.List;
import java.util.Map;
import java.util.NoSuchElementException;
import java.util.Set;
import java.util.TreeMap;

/**
 * The document written down a second time, by other means and without a thought of speed: the court
 * holds who is really on each SPOT, VALUE is a recursion, WAYS is a map. Tests compare CourtSix with
 * it.
 */
final class Model {
    private static final List<String> RESERVED =
            List.of("points", "subs", "edge", "ours", "theirs", "free", "start", "first");
    /** The order in which one comes along: from each SPOT to the one behind it here. */
    private static final List<Integer> PATH = List.of(1, 6, 5, 4, 3, 2);

    private static final class Person {
        String name;
        int serve;
        int net;
        int back;
    }

    private static final class Text {
        int points = 25;
        int subs = 6;
        int edge = 100;
        int first = 0;
        int lines = 0;
        List<List<Person>> people = List.of(new ArrayList<>(), new ArrayList<>());
        int[] free = {-1, -1};
        List<List<Integer>> start = new ArrayList<>(Arrays.asList(null, null));

        int find(int side, String name) {
            for (int p = 0; p < people.get(side).size(); p++) {
                if (people.get(side).get(p).name.equals(name)) {
                    return p;
                }
            }
            return -1;
        }
    }

    private static final class Fault extends Exception {
        private static final long serialVersionUID = 1;
        final int kind;
        final int place;

        Fault(int kind, int place) {
            this.kind = kind;
            this.place = place;
        }
    }

    private static final class Token {
        final String sort;
        final String word;
        final int place;

        Token(String sort, String word, int place) {
            this.sort = sort;
            this.word = word;
            this.place = place;
        }
    }

    /** Who is on the SPOTS (the FREE too), and for whom the FREE stands. */
    private static final class State {
        List<Map<Integer, Integer>> court = new ArrayList<>();
        int[] standsFor = {-1, -1};
        boolean[] blocked = {false, false};
        int[] score = {0, 0};
        int[] left = {0, 0};
        int[] turns = {0, 0};
        List<Map<Integer, Integer>> mateOfStarter = new ArrayList<>();
        List<Set<Integer>> everOn = new ArrayList<>();
        List<Set<Integer>> cameBack = new ArrayList<>();
        List<Map<Integer, int[]>> places = new ArrayList<>();
        List<int[]> points = new ArrayList<>();
        int serves;

        State copy() {
            State c = new State();
            for (int side = 0; side < 2; side++) {
                c.court.add(new HashMap<>(court.get(side)));
                c.mateOfStarter.add(new HashMap<>(mateOfStarter.get(side)));
                c.everOn.add(new HashSet<>(everOn.get(side)));
                c.cameBack.add(new HashSet<>(cameBack.get(side)));
                c.places.add(new HashMap<>(places.get(side)));
            }
            c.standsFor = standsFor.clone();
            c.blocked = blocked.clone();
            c.score = score.clone();
            c.left = left.clone();
            c.turns = turns.clone();
            c.points = new ArrayList<>(points);
            c.serves = serves;
            return c;
        }
    }

    private final StringBuilder tape = new StringBuilder();
    private int faultKind = 0;
    private int faultPlace = -1;
    private Text told;
    private State state;
    private final Deque<State> past = new ArrayDeque<>();
    private int[][] tables;

    // ---- the text

    int feed(int a, int b, int c, int d, int e) {
        if (tape.length() > 880) {
            return -1;
        }
        for (int number : new int[] {a, b, c, d, e}) {
            tape.append((char) (number >>> 24)).append((char) (number >>> 16 & 0xff))
                    .append((char) (number >>> 8 & 0xff)).append((char) (number & 0xff));
        }
        return tape.length();
    }

    int text(int n) {
        if (n < 0 || n > tape.length()) {
            return -2;
        }
        String source = tape.substring(0, n);
        tape.setLength(0);
        Text text = new Text();
        try {
            parse(source, text);
        } catch (Fault fault) {
            faultKind = fault.kind;
            faultPlace = fault.place;
            return -1;
        }
        faultKind = 0;
        faultPlace = -1;
        told = text;
        past.clear();
        tables = null;
        begin();
        return told.lines;
    }

    private void begin() {
        state = new State();
        for (int side = 0; side < 2; side++) {
            Map<Integer, Integer> six = new HashMap<>();
            for (int k = 0; k < 6; k++) {
                six.put(k + 1, told.start.get(side).get(k));
            }
            state.court.add(six);
            state.left[side] = told.subs;
            state.mateOfStarter.add(new HashMap<>());
            state.everOn.add(new HashSet<>(told.start.get(side)));
            state.cameBack.add(new HashSet<>());
            Map<Integer, int[]> place = new HashMap<>();
            place.put(4, new int[] {20, 20});
            place.put(3, new int[] {45, 20});
            place.put(2, new int[] {70, 20});
            place.put(5, new int[] {20, 70});
            place.put(6, new int[] {45, 70});
            place.put(1, new int[] {70, 70});
            state.places.add(place);
        }
        state.serves = told.first;
    }

    private static List<Token> tokens(String source) {
        List<Token> list = new ArrayList<>();
        java.util.regex.Matcher m = java.util.regex.Pattern
                .compile("(?<blank>[ \\n])|(?<word>[a-z]+)|(?<number>[0-9]+)|(?<end>;)|(?<bad>(?s:.))")
                .matcher(source);
        while (m.find()) {
            if (m.group("blank") != null) {
                continue;
            }
            String sort = m.group("number") != null ? "number" : m.group("end") != null ? "end" : "bad";
            if (m.group("word") != null) {
                sort = m.group().length() > 6 ? "bad"
                        : RESERVED.contains(m.group()) ? "reserved" : "name";
            }
            list.add(new Token(sort, m.group(), m.start()));
        }
        list.add(new Token("over", "", source.length()));
        return list;
    }

    private static void parse(String source, Text text) throws Fault {
        List<Token> list = tokens(source);
        Set<String> once = new HashSet<>();
        int at = 0;
        while (!list.get(at).sort.equals("over")) {
            Token head = list.get(at);
            need(head, "reserved");
            switch (head.word) {
                case "points":
                case "subs":
                case "edge":
                    if (!once.add(head.word)) {
                        throw new Fault(3, head.place);
                    }
                    int n = head.word.equals("points") ? number(list.get(at + 1), 3, 25)
                            : number(list.get(at + 1), 0, head.word.equals("subs") ? 12 : 300);
                    if (head.word.equals("points")) {
                        text.points = n;
                    } else if (head.word.equals("subs")) {
                        text.subs = n;
                    } else {
                        text.edge = n;
                    }
                    at += 2;
                    break;
                case "first":
                    if (!once.add("first")) {
                        throw new Fault(3, head.place);
                    }
                    text.first = sideWord(list.get(at + 1));
                    at += 2;
                    break;
                case "free":
                    parseFree(list.get(at + 1), text);
                    at += 2;
                    break;
                case "start":
                    parseStart(list, at + 1, text);
                    at += 8;
                    break;
                default:
                    parsePerson(list, at, text);
                    at += 5;
                    break;
            }
            need(list.get(at), "end");
            at++;
            text.lines++;
        }
        if (text.start.get(0) == null || text.start.get(1) == null) {
            throw new Fault(4, source.length());
        }
    }

    private static void need(Token token, String sort) throws Fault {
        if (!token.sort.equals(sort)) {
            throw new Fault(1, token.place);
        }
    }

    private static int number(Token token, int low, int high) throws Fault {
        need(token, "number");
        java.math.BigInteger n = new java.math.BigInteger(token.word);
        if (n.compareTo(java.math.BigInteger.valueOf(low)) < 0
                || n.compareTo(java.math.BigInteger.valueOf(high)) > 0) {
            throw new Fault(2, token.place);
        }
        return n.intValue();
    }

    private static int sideWord(Token token) throws Fault {
        if (token.word.equals("ours")) {
            return 0;
        }
        if (token.word.equals("theirs")) {
            return 1;
        }
        throw new Fault(1, token.place);
    }

    private static void parseFree(Token token, Text text) throws Fault {
        need(token, "name");
        for (int side = 0; side < 2; side++) {
            int p = text.find(side, token.word);
            if (p >= 0) {
                boolean started = text.start.get(side) != null && text.start.get(side).contains(p);
                if (text.free[side] >= 0 || started) {
                    throw new Fault(3, token.place);
                }
                text.free[side] = p;
                return;
            }
        }
        throw new Fault(1, token.place);
    }

    private static void parseStart(List<Token> list, int at, Text text) throws Fault {
        int side = sideWord(list.get(at));
        if (text.start.get(side) != null) {
            throw new Fault(3, list.get(at).place);
        }
        List<Integer> six = new ArrayList<>();
        for (int k = 1; k <= 6; k++) {
            Token token = list.get(at + k);
            need(token, "name");
            int p = text.find(side, token.word);
            if (p < 0) {
                throw new Fault(1, token.place);
            }
            if (six.contains(p) || text.free[side] == p) {
                throw new Fault(3, token.place);
            }
            six.add(p);
        }
        text.start.set(side, six);
    }

    private static void parsePerson(List<Token> list, int at, Text text) throws Fault {
        int side = sideWord(list.get(at));
        if (text.people.get(side).size() == 12) {
            throw new Fault(2, list.get(at).place);
        }
        need(list.get(at + 1), "name");
        String name = list.get(at + 1).word;
        if (text.find(0, name) >= 0 || text.find(1, name) >= 0) {
            throw new Fault(3, list.get(at + 1).place);
        }
        Person person = new Person();
        person.name = name;
        person.serve = number(list.get(at + 2), 0, 99);
        person.net = number(list.get(at + 3), 0, 99);
        person.back = number(list.get(at + 4), 0, 99);
        text.people.get(side).add(person);
    }

    int fault(int what) {
        return what == 0 ? faultKind : what == 1 ? faultPlace : -1;
    }

    // ---- who

    private boolean side(int side) {
        return told != null && (side == 0 || side == 1);
    }

    private boolean person(int side, int p) {
        return side(side) && p >= 0 && p < told.people.get(side).size();
    }

    private static boolean spot(int spot) {
        return PATH.contains(spot);
    }

    private static boolean turns(int t) {
        return t >= 0 && t <= 5;
    }

    private boolean over() {
        return state.score[0] == told.points || state.score[1] == told.points;
    }

    private boolean isFree(int side, int p) {
        return told.free[side] == p;
    }

    private int spotOf(int side, int p) {
        for (int s = 1; s <= 6; s++) {
            if (state.court.get(side).get(s) == p) {
                return s;
            }
        }
        return 0;
    }

    private Map<Integer, Integer> sixOf(int side) {
        Map<Integer, Integer> six = new HashMap<>(state.court.get(side));
        six.replaceAll((s, p) -> isFree(side, p) ? state.standsFor[side] : p);
        return six;
    }

    private boolean starter(int side, int p) {
        return told.start.get(side).contains(p);
    }

    private boolean mate(int side, int p) {
        return state.mateOfStarter.get(side).containsValue(p);
    }

    private int starterOf(int side, int mate) {
        for (Map.Entry<Integer, Integer> e : state.mateOfStarter.get(side).entrySet()) {
            if (e.getValue() == mate) {
                return e.getKey();
            }
        }
        return -2;
    }

    int player(int side, int p, int what) {
        if (!person(side, p)) {
            throw new IndexOutOfBoundsException();
        }
        Person person = told.people.get(side).get(p);
        switch (what) {
            case 0:
                return person.serve;
            case 1:
                return person.net;
            case 2:
                return person.back;
            case 3:
                return isFree(side, p) ? 1 : 0;
            case 4:
                return spotOf(side, p);
            case 5:
                return starter(side, p) ? 0 : mate(side, p) ? 1 : 2;
            case 6:
                return starter(side, p) ? state.mateOfStarter.get(side).getOrDefault(p, -2)
                        : starterOf(side, p);
            case 7:
                return (int) state.points.stream()
                        .filter(x -> x[0] == side && x[1] == side && x[2] == p).count();
            default:
                throw new NoSuchElementException();
        }
    }

    int on(int side, int spot) {
        return side(side) && spot(spot) ? state.court.get(side).get(spot) : -1;
    }

    int lineUp(int side, int spot) {
        return side(side) && spot(spot) ? sixOf(side).get(spot) : -1;
    }

    int named(int side, int name) {
        if (!side(side)) {
            return -1;
        }
        for (int p = 0; p < told.people.get(side).size(); p++) {
            if (Tape.name(told.people.get(side).get(p).name) == name) {
                return p;
            }
        }
        return -2;
    }

    int ranked(int side, int k) {
        if (!side(side) || k < 0) {
            return -1;
        }
        List<Integer> order = new ArrayList<>();
        for (int p = 0; p < told.people.get(side).size(); p++) {
            order.add(p);
        }
        order.sort((p, q) -> sum(side, q) - sum(side, p));
        return k < order.size() ? order.get(k) : -2;
    }

    private int sum(int side, int p) {
        Person person = told.people.get(side).get(p);
        return person.serve + person.net + person.back;
    }

    // ---- the set

    private void keep() {
        past.push(state.copy());
        if (past.size() > 20) {
            past.removeLast();
        }
    }

    private static Map<Integer, Integer> turned(Map<Integer, Integer> six, int times) {
        Map<Integer, Integer> now = six;
        for (int t = 0; t < times; t++) {
            Map<Integer, Integer> then = new HashMap<>();
            for (int k = 0; k < 6; k++) {
                then.put(PATH.get((k + 1) % 6), now.get(PATH.get(k)));
            }
            now = then;
        }
        return now;
    }

    int point(int side) {
        if (!side(side)) {
            return -1;
        }
        if (over()) {
            return -2;
        }
        keep();
        state.points.add(new int[] {side, state.serves, on(state.serves, 1)});
        state.score[side]++;
        state.blocked = new boolean[] {false, false};
        if (state.serves != side) {
            state.serves = side;
            state.turns[side]++;
            state.court.set(side, turned(state.court.get(side), 1));
            if (isFree(side, on(side, 4))) {
                state.court.get(side).put(4, state.standsFor[side]);
                state.standsFor[side] = -1;
                state.blocked[side] = true;
            }
        }
        return side;
    }

    int maySub(int side, int goes, int comes) {
        if (!person(side, goes) || !person(side, comes)) {
            return -1;
        }
        if (over()) {
            return -2;
        }
        if (state.left[side] == 0) {
            return -3;
        }
        if (isFree(side, goes) || spotOf(side, goes) == 0) {
            return -4;
        }
        if (isFree(side, comes) || spotOf(side, comes) != 0 || state.standsFor[side] == comes) {
            return -5;
        }
        Map<Integer, Integer> mates = state.mateOfStarter.get(side);
        boolean out = starter(side, goes) && !mates.containsKey(goes)
                && !state.everOn.get(side).contains(comes);
        boolean back = mate(side, goes) && starterOf(side, goes) == comes
                && !state.cameBack.get(side).contains(comes);
        return out || back ? 0 : -6;
    }

    int sub(int side, int goes, int comes) {
        int may = maySub(side, goes, comes);
        if (may != 0) {
            return may;
        }
        keep();
        state.court.get(side).put(spotOf(side, goes), comes);
        if (starter(side, goes)) {
            state.mateOfStarter.get(side).put(goes, comes);
            state.everOn.get(side).add(comes);
        } else {
            state.cameBack.get(side).add(comes);
        }
        return --state.left[side];
    }

    int mayMove(int side, int spot) {
        if (!side(side) || !List.of(0, 1, 5, 6).contains(spot)) {
            return -1;
        }
        if (over()) {
            return -2;
        }
        boolean there = state.standsFor[side] >= 0;
        if (told.free[side] < 0 || there && spot != 0 || !there && spot == 0) {
            return -3;
        }
        if (state.blocked[side]) {
            return -4;
        }
        return spot == 1 && state.serves == side ? -5 : 0;
    }

    int move(int side, int spot) {
        int may = mayMove(side, spot);
        if (may != 0) {
            return may;
        }
        keep();
        state.blocked[side] = true;
        if (spot != 0) {
            state.standsFor[side] = state.court.get(side).put(spot, told.free[side]);
            return state.standsFor[side];
        }
        int stood = state.standsFor[side];
        state.court.get(side).put(spotOf(side, told.free[side]), stood);
        state.standsFor[side] = -1;
        return stood;
    }

    boolean stand(int side, int spot, int x, int y) {
        if (!side(side) || !spot(spot) || x < 0 || x > 90 || y < 0 || y > 90) {
            return false;
        }
        keep();
        state.places.get(side).put(spot, new int[] {x, y});
        return true;
    }

    int standing(int side, int spot, int what) {
        return side(side) && spot(spot) && (what == 0 || what == 1)
                ? state.places.get(side).get(spot)[what] : -1;
    }

    int wrong(int side, int k) {
        if (!side(side) || k < 0) {
            return -1;
        }
        int[][] couples = {{4, 5, 1}, {3, 6, 1}, {2, 1, 1}, {4, 3, 0}, {3, 2, 0}, {5, 6, 0}, {6, 1, 0}};
        List<Integer> wrong = new ArrayList<>();
        for (int c = 0; c < 7; c++) {
            boolean serving = state.serves == side && (couples[c][0] == 1 || couples[c][1] == 1);
            boolean right = standing(side, couples[c][0], couples[c][2])
                    < standing(side, couples[c][1], couples[c][2]);
            if (!serving && !right) {
                wrong.add(c);
            }
        }
        return k < wrong.size() ? wrong.get(k) : -2;
    }

    int undo() {
        if (past.isEmpty()) {
            return -1;
        }
        state = past.pop();
        return past.size();
    }

    int now(int what) {
        if (told == null || what < 0 || what > 8) {
            return -1;
        }
        return new int[] {state.score[0], state.score[1], state.serves, over() ? 1 : 0,
            state.left[0], state.left[1], state.turns[0] % 6, state.turns[1] % 6,
            state.points.size()}[what];
    }

    // ---- chances

    private int front(int side, Map<Integer, Integer> six) {
        int sum = 0;
        for (int s : new int[] {2, 3, 4}) {
            sum += told.people.get(side).get(six.get(s)).net;
        }
        return sum;
    }

    private int rear(int side, Map<Integer, Integer> six) {
        int sum = 0;
        for (int s : new int[] {1, 6, 5}) {
            sum += told.people.get(side).get(six.get(s)).back;
        }
        return sum;
    }

    private int chanceOf(List<Map<Integer, Integer>> sixes, int serves) {
        int other = 1 - serves;
        Map<Integer, Integer> mine = sixes.get(serves);
        Map<Integer, Integer> yours = sixes.get(other);
        int c = 500 + told.people.get(serves).get(mine.get(1)).serve + front(serves, mine)
                + rear(serves, mine) - front(other, yours) - rear(other, yours) - told.edge;
        return c < 50 ? 50 : c > 950 ? 950 : c;
    }

    private List<Map<Integer, Integer>> sixes() {
        return List.of(sixOf(0), sixOf(1));
    }

    private static List<Map<Integer, Integer>> turnedBoth(List<Map<Integer, Integer>> sixes, int r, int s) {
        return List.of(turned(sixes.get(0), r), turned(sixes.get(1), s));
    }

    int chance() {
        return told == null ? -1 : over() ? -2 : chanceOf(state.court, state.serves);
    }

    int chanceAt(int r, int s, int serves) {
        return side(serves) && turns(r) && turns(s) ? chanceOf(turnedBoth(sixes(), r, s), serves) : -1;
    }

    private int strongest(int side, int serves, int what) {
        int best = -1;
        int at = -1;
        for (int t = 0; t < 6; t++) {
            int c = side == 0 ? chanceAt(t, 0, serves) : chanceAt(0, t, serves);
            if (c > best) {
                best = c;
                at = t;
            }
        }
        return what == 0 ? at : best;
    }

    int weak(int side, int what) {
        return side(side) && (what == 0 || what == 1) ? strongest(side, 1 - side, what) : -1;
    }

    int strong(int side, int what) {
        return side(side) && (what == 0 || what == 1) ? strongest(side, side, what) : -1;
    }

    int strength(int side, int what) {
        if (!side(side) || what < 0 || what > 2) {
            return -1;
        }
        Map<Integer, Integer> six = state.court.get(side);
        return what == 0 ? front(side, six) : what == 1 ? rear(side, six)
                : told.people.get(side).get(six.get(1)).serve;
    }

    int streak(int side, int n) {
        if (!side(side) || n < 0 || n > (over() ? 0 : told.points - state.score[side])) {
            return -1;
        }
        long v = 1000000;
        int serves = state.serves;
        List<Map<Integer, Integer>> sixes = sixes();
        for (int k = 0; k < n; k++) {
            int c = chanceOf(sixes, serves);
            v = v * (serves == side ? c : 1000 - c) / 1000;
            if (serves != side) {
                sixes = turnedBoth(sixes, side == 0 ? 1 : 0, side);
                serves = side;
            }
        }
        return (int) v;
    }

    // ---- values

    private final class Game {
        final int[][][] chances = new int[6][6][2];
        final Map<Integer, Long> known = new HashMap<>();

        Game(List<Map<Integer, Integer>> sixes) {
            for (int r = 0; r < 6; r++) {
                for (int s = 0; s < 6; s++) {
                    for (int serves = 0; serves < 2; serves++) {
                        chances[r][s][serves] = chanceOf(turnedBoth(sixes, r, s), serves);
                    }
                }
            }
        }

        long value(int a, int b, int r, int s, int serves) {
            if (a == told.points) {
                return 1000000;
            }
            if (b == told.points) {
                return 0;
            }
            int key = (((a * 32 + b) * 6 + r) * 6 + s) * 2 + serves;
            Long before = known.get(key);
            if (before != null) {
                return before;
            }
            long c = chances[r][s][serves];
            long v = serves == 0
                    ? c * value(a + 1, b, r, s, 0) + (1000 - c) * value(a, b + 1, r, (s + 1) % 6, 1)
                    : c * value(a, b + 1, r, s, 1) + (1000 - c) * value(a + 1, b, (r + 1) % 6, s, 0);
            known.put(key, v / 1000);
            return v / 1000;
        }
    }

    private boolean score(int a, int b) {
        return told != null && a >= 0 && b >= 0 && a <= told.points && b <= told.points
                && !(a == told.points && b == told.points);
    }

    int value() {
        return told == null ? -1
                : (int) new Game(sixes()).value(state.score[0], state.score[1], 0, 0, state.serves);
    }

    int valueAt(int a, int b, int r, int s, int serves) {
        return score(a, b) && turns(r) && turns(s) && side(serves)
                ? (int) new Game(sixes()).value(a, b, r, s, serves) : -1;
    }

    /** What a call answers behind something told, which is taken back then. */
    private int behind(Runnable doing, java.util.function.IntSupplier asking) {
        State before = state.copy();
        List<State> kept = new ArrayList<>(past);
        doing.run();
        int answer = asking.getAsInt();
        state = before;
        past.clear();
        past.addAll(kept);
        return answer;
    }

    int worth(int side) {
        if (!side(side) || over()) {
            return -2000000;
        }
        return behind(() -> point(side), this::value) - value();
    }

    int ifSub(int side, int goes, int comes) {
        int may = maySub(side, goes, comes);
        return may != 0 ? may : behind(() -> sub(side, goes, comes), this::value);
    }

    int bestSub(int side, int what) {
        if (!side(side) || what < 0 || what > 2) {
            return -1;
        }
        int[] best = null;
        for (int goes = 0; goes < 12; goes++) {
            for (int comes = 0; comes < 12; comes++) {
                int v = ifSub(side, goes, comes);
                if (v >= 0 && (best == null || (side == 0 ? v > best[2] : v < best[2]))) {
                    best = new int[] {goes, comes, v};
                }
            }
        }
        return best == null ? -2 : best[what];
    }

    int subsNow(int side) {
        if (!side(side)) {
            return -1;
        }
        int n = 0;
        for (int goes = 0; goes < 12; goes++) {
            for (int comes = 0; comes < 12; comes++) {
                n += maySub(side, goes, comes) == 0 ? 1 : 0;
            }
        }
        return n;
    }

    int bestMove(int side, int what) {
        if (!side(side) || what < 0 || what > 1) {
            return -1;
        }
        int[] best = null;
        for (int s : new int[] {1, 6, 5}) {
            if (mayMove(side, s) == 0) {
                int c = behind(() -> move(side, s), this::chance);
                if (best == null || (state.serves == side ? c > best[1] : c < best[1])) {
                    best = new int[] {s, c};
                }
            }
        }
        return best == null ? -2 : best[what];
    }

    // ---- the start game

    private List<Map<Integer, Integer>> starts() {
        List<Map<Integer, Integer>> sixes = new ArrayList<>();
        for (int side = 0; side < 2; side++) {
            Map<Integer, Integer> six = new HashMap<>();
            for (int k = 0; k < 6; k++) {
                six.put(k + 1, told.start.get(side).get(k));
            }
            sixes.add(six);
        }
        return sixes;
    }

    int table(int r, int s) {
        if (told == null || !turns(r) || !turns(s)) {
            return -1;
        }
        if (tables == null) {
            tables = new int[6][6];
            for (int i = 0; i < 6; i++) {
                for (int j = 0; j < 6; j++) {
                    tables[i][j] = (int) new Game(turnedBoth(starts(), i, j)).value(0, 0, 0, 0, told.first);
                }
            }
        }
        return tables[r][s];
    }

    private int rowLeast(int r) {
        int least = table(r, 0);
        for (int s = 1; s < 6; s++) {
            least = Math.min(least, table(r, s));
        }
        return least;
    }

    private int columnMost(int s) {
        int most = table(0, s);
        for (int r = 1; r < 6; r++) {
            most = Math.max(most, table(r, s));
        }
        return most;
    }

    int safe(int side, int what) {
        if (!side(side) || what < 0 || what > 1) {
            return -1;
        }
        int at = 0;
        for (int t = 1; t < 6; t++) {
            if (side == 0 ? rowLeast(t) > rowLeast(at) : columnMost(t) < columnMost(at)) {
                at = t;
            }
        }
        return what == 0 ? at : side == 0 ? rowLeast(at) : columnMost(at);
    }

    int saddle() {
        return told == null ? -1 : safe(0, 1) == safe(1, 1) ? 1 : 0;
    }

    int reply(int side, int t) {
        if (!side(side) || !turns(t)) {
            return -1;
        }
        int at = 0;
        for (int k = 1; k < 6; k++) {
            if (side == 0 ? table(k, t) > table(at, t) : table(t, k) < table(t, at)) {
                at = k;
            }
        }
        return at;
    }

    int ifSwapped(int side, int spot, int other) {
        if (!side(side) || !spot(spot) || !spot(other) || spot == other) {
            return -1;
        }
        List<Map<Integer, Integer>> sixes = starts();
        int a = sixes.get(side).get(spot);
        sixes.get(side).put(spot, sixes.get(side).get(other));
        sixes.get(side).put(other, a);
        return (int) new Game(sixes).value(0, 0, 0, 0, told.first);
    }

    int bestSwap(int side, int what) {
        if (!side(side) || what < 0 || what > 2) {
            return -1;
        }
        int[] best = null;
        for (int i = 1; i <= 6; i++) {
            for (int j = i + 1; j <= 6; j++) {
                int v = ifSwapped(side, i, j);
                if (best == null || (side == 0 ? v > best[2] : v < best[2])) {
                    best = new int[] {i, j, v};
                }
            }
        }
        return best[what];
    }

    // ---- ways

    /** All that is come to, by POINTS in all, then by points, LINE-UPS turned and who serves. */
    private Map<List<Integer>, Long> ways() {
        Game game = new Game(sixes());
        TreeMap<Integer, Map<List<Integer>, Long>> layers = new TreeMap<>();
        Map<List<Integer>, Long> all = new HashMap<>();
        int played = state.score[0] + state.score[1];
        layers.put(played, new HashMap<>());
        layers.get(played).put(List.of(state.score[0], state.score[1], 0, 0, state.serves), 1000000000000L);
        for (int k = played; layers.containsKey(k); k++) {
            for (Map.Entry<List<Integer>, Long> e : layers.get(k).entrySet()) {
                List<Integer> at = e.getKey();
                int a = at.get(0);
                int b = at.get(1);
                int r = at.get(2);
                int s = at.get(3);
                long w = e.getValue();
                all.merge(List.of(a, b), w, Long::sum);
                if (a == told.points || b == told.points) {
                    continue;
                }
                boolean oursServe = at.get(4) == 0;
                long kept = w * game.chances[r][s][at.get(4)] / 1000;
                Map<List<Integer>, Long> next = layers.computeIfAbsent(k + 1, x -> new HashMap<>());
                next.merge(List.of(a + 1, b, oursServe ? r : (r + 1) % 6, s, 0),
                        oursServe ? kept : w - kept, Long::sum);
                next.merge(List.of(a, b + 1, r, oursServe ? (s + 1) % 6 : s, 1),
                        oursServe ? w - kept : kept, Long::sum);
            }
        }
        return all;
    }

    int likely(int a, int b) {
        return score(a, b) ? (int) (ways().getOrDefault(List.of(a, b), 0L) / 1000000) : -1;
    }

    int ends(int side, int n) {
        if (!side(side) || n < 0 || n >= told.points) {
            return -1;
        }
        return side == 0 ? likely(told.points, n) : likely(n, told.points);
    }

    int length() {
        if (told == null) {
            return -1;
        }
        long sum = 0;
        for (Map.Entry<List<Integer>, Long> e : ways().entrySet()) {
            int a = e.getKey().get(0);
            int b = e.getKey().get(1);
            if (a == told.points || b == told.points) {
                sum += e.getValue() * (a + b);
            }
        }
        return (int) (sum / 10000000000L);
    }

    // ---- the rest

    int together(int side, int p, int q, int what) {
        if (!person(side, p) || !person(side, q) || p == q || what < 0 || what > 1) {
            return -1;
        }
        if (!sixOf(side).containsValue(p) || !sixOf(side).containsValue(q)) {
            return -2;
        }
        int n = 0;
        for (int t = 0; t < 6; t++) {
            Map<Integer, Integer> six = turned(sixOf(side), t);
            List<Integer> line = what == 0 ? List.of(six.get(2), six.get(3), six.get(4))
                    : List.of(six.get(1), six.get(6), six.get(5));
            n += line.contains(p) && line.contains(q) ? 1 : 0;
        }
        return n;
    }

    int till(int side, int p, int spot) {
        if (!person(side, p) || !spot(spot)) {
            return -1;
        }
        for (int t = 0; t < 6; t++) {
            if (turned(sixOf(side), t).get(spot) == p) {
                return t;
            }
        }
        return -2;
    }

    int run(int what) {
        if (told == null || what < 0 || what > 4) {
            return -1;
        }
        if (what == 1) {
            return on(state.serves, 1);
        }
        // Every RUN as length, who, SIDE, and the place behind its last POINT.
        List<int[]> runs = new ArrayList<>();
        for (int k = 0; k < state.points.size(); k++) {
            int[] x = state.points.get(k);
            if (x[0] != x[1]) {
                continue;
            }
            int[] last = runs.isEmpty() ? null : runs.get(runs.size() - 1);
            if (last != null && last[3] == k && last[1] == x[2] && last[2] == x[1]) {
                last[0]++;
                last[3]++;
            } else {
                runs.add(new int[] {1, x[2], x[1], k + 1});
            }
        }
        if (what == 0) {
            int[] last = runs.isEmpty() ? null : runs.get(runs.size() - 1);
            return last != null && last[3] == state.points.size() && last[2] == state.serves
                    && last[1] == on(state.serves, 1) ? last[0] : 0;
        }
        int[] best = {0, -2, -2};
        for (int[] run : runs) {
            best = run[0] > best[0] ? run : best;
        }
        return best[what - 2];
    }

    int was(int k, int what) {
        if (told == null || k < 0 || what < 0 || what > 2) {
            return -1;
        }
        return k < state.points.size() ? state.points.get(k)[what] : -2;
    }

    int count(int what) {
        if (what == 7) {
            return tape.length();
        }
        if (told == null || what < 0 || what > 7) {
            return -1;
        }
        return new int[] {told.lines, told.points, told.subs, told.edge, told.people.get(0).size(),
            told.people.get(1).size(), past.size()}[what];
    }
}
