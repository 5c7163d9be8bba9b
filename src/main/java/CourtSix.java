import java.util.Arrays;
import java.util.NoSuchElementException;

/**
 * A set between two SIDES of six who turn, told as a TEXT. The document (DOC.md) has the words in
 * capitals and, promise by promise, what each public method answers.
 */
public final class CourtSix {
    public static final int NONE = -1;

    private static final int SPOTS = 6;
    private static final int MOST_PLAYERS = 12;
    private static final int MOST_POINTS = 25;
    private static final int MOST_BYTES = 900;
    private static final int BYTES_A_FEED = 20;
    private static final int MOST_UNDONE = 20;
    private static final int COUPLES = 7;
    private static final int FARTHEST = 90;
    private static final int SURE = 1000000;
    private static final int NO_WORTH = -2000000;
    private static final int UNTOLD = -1;

    /** Behind so many changes of who serves both LINE-UPS, and who serves, are as they were. */
    private static final int CYCLE = 12;
    private static final int ROW = (MOST_POINTS + 1) * CYCLE;
    private static final long ALL_WAYS = 1000000000000L;
    private static final long WAYS_A_MILLIONTH = 1000000L;
    private static final long WAYS_A_HUNDREDTH = 10000000000L;

    /** The couples of STANDING: the first three by y, the others by x. */
    private static final int[] COUPLE_FIRST = {4, 3, 2, 4, 3, 5, 6};
    private static final int[] COUPLE_SECOND = {5, 6, 1, 3, 2, 6, 1};
    private static final int COUPLES_BY_DEPTH = 3;

    /** STANDING at first, SPOT 1 first. */
    private static final int[] FIRST_X = {70, 70, 45, 20, 20, 45};
    private static final int[] FIRST_Y = {70, 20, 20, 20, 70, 70};

    /** The REAR SPOTS in the order in which bestMove() prefers them. */
    private static final int[] REAR = {1, 6, 5};

    private final Reader reader = new Reader();
    private final Odds odds = new Odds();
    private final Log log = new Log();
    private final Court court = new Court();
    private final Court[] past = new Court[MOST_UNDONE];
    private final int[] startTable = new int[SPOTS * SPOTS];
    private final int[] trialOurs = new int[SPOTS];
    private final int[] trialTheirs = new int[SPOTS];
    private final Best pick = new Best();
    private final Best[] subBests = new Best[2];
    private final Best[] swapBests = new Best[2];
    private Told told = new Told();
    private Told spare = new Told();
    private boolean playing;
    private boolean tableKnown;
    private int undoable;
    private int nextPast;

    public CourtSix() {
        for (int k = 0; k < MOST_UNDONE; k++) {
            past[k] = new Court();
        }
        for (int side = 0; side < 2; side++) {
            subBests[side] = new Best();
            swapBests[side] = new Best();
        }
    }

    // ---- the TEXT

    public int feed(int a, int b, int c, int d, int e) {
        if (reader.size + BYTES_A_FEED > MOST_BYTES) {
            return NONE;
        }
        reader.take(a);
        reader.take(b);
        reader.take(c);
        reader.take(d);
        reader.take(e);
        return reader.size;
    }

    public int text(int n) {
        if (n < 0 || n > reader.size) {
            return -2;
        }
        if (!reader.readInto(spare, n)) {
            return NONE;
        }
        Told before = told;
        told = spare;
        spare = before;
        beginSet();
        return told.lines;
    }

    public int fault(int what) {
        switch (what) {
            case 0:
                return reader.faultKind;
            case 1:
                return reader.faultPlace;
            default:
                return NONE;
        }
    }

    public int named(int side, int name) {
        if (!isSide(side)) {
            return NONE;
        }
        int p = told.squad(side).find(name);
        return p == NONE ? -2 : p;
    }

    public int count(int what) {
        if (what == 7) {
            return reader.size;
        }
        if (!playing) {
            return NONE;
        }
        switch (what) {
            case 0:
                return told.lines;
            case 1:
                return told.points;
            case 2:
                return told.subs;
            case 3:
                return told.edge;
            case 4:
                return told.ours.size;
            case 5:
                return told.theirs.size;
            case 6:
                return undoable;
            default:
                return NONE;
        }
    }

    private void beginSet() {
        playing = true;
        undoable = 0;
        nextPast = 0;
        tableKnown = false;
        swapBests[0].known = false;
        swapBests[1].known = false;
        court.begin(told);
        forgetSubBests();
    }

    // ---- who there is

    public int player(int side, int p, int what)
            throws IndexOutOfBoundsException, NoSuchElementException {
        if (!isPlayer(side, p)) {
            throw new IndexOutOfBoundsException("no such player");
        }
        Squad squad = told.squad(side);
        switch (what) {
            case 0:
                return squad.serve[p];
            case 1:
                return squad.net[p];
            case 2:
                return squad.back[p];
            case 3:
                return p == squad.free ? 1 : 0;
            case 4:
                return spotOnCourt(side, p);
            case 5:
                return roleOf(side, p);
            case 6:
                return mateOf(side, p);
            case 7:
                return log.pointsOf(court.played, side, p);
            default:
                throw new NoSuchElementException("no such thing of a player");
        }
    }

    public int ranked(int side, int k) {
        if (!isSide(side) || k < 0) {
            return NONE;
        }
        Squad squad = told.squad(side);
        for (int p = 0; p < squad.size; p++) {
            if (squad.betterThan(p) == k) {
                return p;
            }
        }
        return -2;
    }

    public int on(int side, int spot) {
        return isSide(side) && isSpot(spot) ? whoIsOn(side, spot) : NONE;
    }

    public int lineUp(int side, int spot) {
        return isSide(side) && isSpot(spot) ? court.team(side).six[spot - 1] : NONE;
    }

    public int strength(int side, int what) {
        if (!isSide(side)) {
            return NONE;
        }
        weighCourt();
        Force force = odds.force(side);
        switch (what) {
            case 0:
                return force.front[0];
            case 1:
                return force.rear[0];
            case 2:
                return force.serve[0];
            default:
                return NONE;
        }
    }

    public int together(int side, int p, int q, int what) {
        if (!isPlayer(side, p) || !isPlayer(side, q) || p == q || what < 0 || what > 1) {
            return NONE;
        }
        int spotP = court.team(side).spotOf(p);
        int spotQ = court.team(side).spotOf(q);
        if (spotP == 0 || spotQ == 0) {
            return -2;
        }
        boolean wantFront = what == 0;
        int times = 0;
        for (int turns = 0; turns < SPOTS; turns++) {
            if (isFront(spotBehind(spotP, turns)) == wantFront
                    && isFront(spotBehind(spotQ, turns)) == wantFront) {
                times++;
            }
        }
        return times;
    }

    public int till(int side, int p, int spot) {
        if (!isPlayer(side, p) || !isSpot(spot)) {
            return NONE;
        }
        int from = court.team(side).spotOf(p);
        return from == 0 ? -2 : (from - spot + SPOTS) % SPOTS;
    }

    private boolean isSide(int side) {
        return playing && (side == 0 || side == 1);
    }

    private boolean isPlayer(int side, int p) {
        return isSide(side) && p >= 0 && p < told.squad(side).size;
    }

    private static boolean isSpot(int spot) {
        return spot >= 1 && spot <= SPOTS;
    }

    private static boolean isFront(int spot) {
        return spot >= 2 && spot <= 4;
    }

    private static boolean isRear(int spot) {
        return isSpot(spot) && !isFront(spot);
    }

    /** The SPOT to which who is on a SPOT comes by so many TURNS (0 .. 5). */
    private static int spotBehind(int spot, int turns) {
        return (spot - 1 - turns + SPOTS) % SPOTS + 1;
    }

    private int whoIsOn(int side, int spot) {
        Side team = court.team(side);
        return team.freeSpot == spot ? told.squad(side).free : team.six[spot - 1];
    }

    /** The SPOT of a PLAYER, 0 if he isn't on the court. */
    private int spotOnCourt(int side, int p) {
        Side team = court.team(side);
        if (p == told.squad(side).free) {
            return team.freeSpot;
        }
        int spot = team.spotOf(p);
        return spot == team.freeSpot ? 0 : spot;
    }

    private int roleOf(int side, int p) {
        if (told.squad(side).isStarter(p)) {
            return 0;
        }
        return court.team(side).mates[p] != NONE ? 1 : 2;
    }

    private int mateOf(int side, int p) {
        int mate = court.team(side).mates[p];
        return mate == NONE ? -2 : mate;
    }

    // ---- what is told of the set

    public int point(int side) {
        if (!isSide(side)) {
            return NONE;
        }
        if (isOver()) {
            return -2;
        }
        remember();
        log.note(court.played, side, court.serves, whoIsOn(court.serves, 1));
        court.award(side);
        return court.serves;
    }

    public int sub(int side, int goes, int comes) {
        int verdict = judgeSub(side, goes, comes);
        if (verdict != 0) {
            return verdict;
        }
        remember();
        Side team = court.team(side);
        team.exchange(goes, comes);
        return team.subsLeft;
    }

    public int move(int side, int spot) {
        int verdict = judgeMove(side, spot);
        if (verdict != 0) {
            return verdict;
        }
        remember();
        Side team = court.team(side);
        int stoodAt = spot == 0 ? team.freeSpot : spot;
        team.freeSpot = spot;
        team.moved = true;
        return team.six[stoodAt - 1];
    }

    public boolean stand(int side, int spot, int x, int y) {
        if (!isSide(side) || !isSpot(spot) || !isPlace(x) || !isPlace(y)) {
            return false;
        }
        remember();
        Side team = court.team(side);
        team.x[spot - 1] = x;
        team.y[spot - 1] = y;
        return true;
    }

    public int undo() {
        if (undoable == 0) {
            return NONE;
        }
        undoable--;
        nextPast = (nextPast + MOST_UNDONE - 1) % MOST_UNDONE;
        court.copyFrom(past[nextPast]);
        forgetSubBests();
        return undoable;
    }

    public int maySub(int side, int goes, int comes) {
        return judgeSub(side, goes, comes);
    }

    public int mayMove(int side, int spot) {
        return judgeMove(side, spot);
    }

    public int subsNow(int side) {
        if (!isSide(side)) {
            return NONE;
        }
        int size = told.squad(side).size;
        int subs = 0;
        for (int goes = 0; goes < size; goes++) {
            for (int comes = 0; comes < size; comes++) {
                if (judgeSub(side, goes, comes) == 0) {
                    subs++;
                }
            }
        }
        return subs;
    }

    private void remember() {
        past[nextPast].copyFrom(court);
        nextPast = (nextPast + 1) % MOST_UNDONE;
        if (undoable < MOST_UNDONE) {
            undoable++;
        }
        forgetSubBests();
    }

    private boolean isOver() {
        return court.ours.score >= told.points || court.theirs.score >= told.points;
    }

    private static boolean isPlace(int coordinate) {
        return coordinate >= 0 && coordinate <= FARTHEST;
    }

    /** 0 if the SUB can be, else what sub() answers. */
    private int judgeSub(int side, int goes, int comes) {
        if (!isPlayer(side, goes) || !isPlayer(side, comes)) {
            return NONE;
        }
        if (isOver()) {
            return -2;
        }
        Side team = court.team(side);
        Squad squad = told.squad(side);
        if (team.subsLeft <= 0) {
            return -3;
        }
        if (goes == squad.free || spotOnCourt(side, goes) == 0) {
            return -4;
        }
        // Who is of the LINE-UP is on the court, or the FREE stands for him.
        if (comes == squad.free || team.spotOf(comes) != 0) {
            return -5;
        }
        return areFit(side, goes, comes) ? 0 : -6;
    }

    /** Whether the rules of STARTERS and MATES let one go for the other. */
    private boolean areFit(int side, int goes, int comes) {
        Side team = court.team(side);
        int role = roleOf(side, goes);
        if (role == 1) {
            return team.mates[goes] == comes;
        }
        // A STARTER with a MATE has gone once; who is neither has never been on the court.
        return role == 0 && team.mates[goes] == NONE && roleOf(side, comes) == 2;
    }

    /** 0 if the MOVE can be, else what move() answers. */
    private int judgeMove(int side, int spot) {
        if (!isSide(side) || spot != 0 && !isRear(spot)) {
            return NONE;
        }
        if (isOver()) {
            return -2;
        }
        Side team = court.team(side);
        boolean comes = spot != 0;
        boolean isThere = team.freeSpot != 0;
        if (told.squad(side).free == NONE || comes == isThere) {
            return -3;
        }
        if (team.moved) {
            return -4;
        }
        return spot == 1 && court.serves == side ? -5 : 0;
    }

    // ---- how it stands

    public int standing(int side, int spot, int what) {
        if (!isSide(side) || !isSpot(spot)) {
            return NONE;
        }
        Side team = court.team(side);
        switch (what) {
            case 0:
                return team.x[spot - 1];
            case 1:
                return team.y[spot - 1];
            default:
                return NONE;
        }
    }

    public int wrong(int side, int k) {
        if (!isSide(side) || k < 0) {
            return NONE;
        }
        int left = k;
        for (int couple = 0; couple < COUPLES; couple++) {
            if (isWrong(side, couple)) {
                if (left == 0) {
                    return couple;
                }
                left--;
            }
        }
        return -2;
    }

    public int now(int what) {
        if (!playing) {
            return NONE;
        }
        switch (what) {
            case 0:
                return court.ours.score;
            case 1:
                return court.theirs.score;
            case 2:
                return court.serves;
            case 3:
                return isOver() ? 1 : 0;
            case 4:
                return court.ours.subsLeft;
            case 5:
                return court.theirs.subsLeft;
            case 6:
                return court.ours.turned;
            case 7:
                return court.theirs.turned;
            case 8:
                return court.played;
            default:
                return NONE;
        }
    }

    public int run(int what) {
        if (!playing || what < 0 || what > 4) {
            return NONE;
        }
        int server = whoIsOn(court.serves, 1);
        if (what == 0) {
            return log.runUpTo(court.played, court.serves, server);
        }
        if (what == 1) {
            return server;
        }
        pick.clear();
        log.offerRuns(court.played, pick);
        if (what == 2) {
            return pick.known ? pick.weight : 0;
        }
        if (!pick.known) {
            return -2;
        }
        return what == 3 ? pick.first : pick.second;
    }

    public int was(int k, int what) {
        if (!playing || k < 0 || what < 0 || what > 2) {
            return NONE;
        }
        if (k >= court.played) {
            return -2;
        }
        if (what == 0) {
            return log.had[k];
        }
        return what == 1 ? log.served[k] : log.server[k];
    }

    private boolean isWrong(int side, int couple) {
        int first = COUPLE_FIRST[couple];
        int second = COUPLE_SECOND[couple];
        if (second == 1 && court.serves == side) {
            return false;
        }
        Side team = court.team(side);
        int[] row = couple < COUPLES_BY_DEPTH ? team.y : team.x;
        return row[first - 1] >= row[second - 1];
    }

    // ---- how likely the next POINT is

    public int chance() {
        if (!playing) {
            return NONE;
        }
        if (isOver()) {
            return -2;
        }
        weighCourt();
        return odds.chanceOf(0, 0, court.serves);
    }

    public int chanceAt(int r, int s, int serves) {
        if (!isSide(serves) || !isTurns(r) || !isTurns(s)) {
            return NONE;
        }
        weighNow();
        return odds.chanceOf(r, s, serves);
    }

    public int bestMove(int side, int what) {
        if (!isSide(side) || what < 0 || what > 1) {
            return NONE;
        }
        pick.clear();
        for (int k = 0; k < REAR.length; k++) {
            if (judgeMove(side, REAR[k]) == 0) {
                int then = chanceBehindMove(side, REAR[k]);
                pick.offer(REAR[k], then, then, court.serves == side);
            }
        }
        return pick.known ? pick.part(what) : -2;
    }

    public int weak(int side, int what) {
        if (!isSide(side) || what < 0 || what > 1) {
            return NONE;
        }
        weighNow();
        return bestTurns(side, 1 - side, what);
    }

    public int strong(int side, int what) {
        if (!isSide(side) || what < 0 || what > 1) {
            return NONE;
        }
        weighNow();
        return bestTurns(side, side, what);
    }

    public int streak(int side, int n) {
        if (!isSide(side) || n < 0) {
            return NONE;
        }
        int needed = isOver() ? 0 : told.points - court.team(side).score;
        if (n > needed) {
            return NONE;
        }
        weighNow();
        return odds.streakOf(side, n, court.serves);
    }

    private static boolean isTurns(int turns) {
        return turns >= 0 && turns < SPOTS;
    }

    /** The TURNS of a SIDE by which CHANCE of who serves is greatest, or (what 1) that CHANCE. */
    private int bestTurns(int side, int serves, int what) {
        pick.clear();
        for (int turns = 0; turns < SPOTS; turns++) {
            int then = side == 0 ? odds.chanceOf(turns, 0, serves) : odds.chanceOf(0, turns, serves);
            pick.offer(turns, then, then, true);
        }
        return pick.part(what);
    }

    private int chanceBehindMove(int side, int spot) {
        fillTrials();
        trialOf(side)[spot - 1] = told.squad(side).free;
        weighTrials();
        return odds.chanceOf(0, 0, court.serves);
    }

    /** Weighs the LINE-UPS, as all but CHANCE now does. */
    private void weighNow() {
        odds.weigh(told, court.ours.six, court.theirs.six);
    }

    /** Weighs who is on the court, the FREE among them. */
    private void weighCourt() {
        fillTrials();
        weighTrials();
    }

    private void weighTrials() {
        odds.weigh(told, trialOurs, trialTheirs);
    }

    private int[] trialOf(int side) {
        return side == 0 ? trialOurs : trialTheirs;
    }

    private void fillTrials() {
        for (int spot = 1; spot <= SPOTS; spot++) {
            trialOurs[spot - 1] = whoIsOn(0, spot);
            trialTheirs[spot - 1] = whoIsOn(1, spot);
        }
    }

    // ---- how likely the set is

    public int value() {
        if (!playing) {
            return NONE;
        }
        weighNow();
        return valueFromNow();
    }

    public int valueAt(int a, int b, int r, int s, int serves) {
        if (!isSide(serves) || !isScore(a, b) || !isTurns(r) || !isTurns(s)) {
            return NONE;
        }
        weighNow();
        return odds.valueOf(a, b, r, s, serves);
    }

    public int worth(int side) {
        if (!isSide(side) || isOver()) {
            return NO_WORTH;
        }
        int a = court.ours.score + (side == 0 ? 1 : 0);
        int b = court.theirs.score + (side == 1 ? 1 : 0);
        int r = side == 0 && court.serves == 1 ? 1 : 0;
        int s = side == 1 && court.serves == 0 ? 1 : 0;
        weighNow();
        return odds.valueOf(a, b, r, s, side) - valueFromNow();
    }

    public int ifSub(int side, int goes, int comes) {
        int verdict = judgeSub(side, goes, comes);
        return verdict != 0 ? verdict : valueBehindSub(side, goes, comes);
    }

    public int bestSub(int side, int what) {
        if (!isSide(side) || what < 0 || what > 2) {
            return NONE;
        }
        Best best = subBests[side];
        if (!best.known && court.team(side).subsLeft > 0 && !isOver()) {
            offerSubs(side, best);
        }
        return best.known ? best.part(what) : -2;
    }

    public int likely(int a, int b) {
        if (!playing || !isScore(a, b)) {
            return NONE;
        }
        spreadFromNow();
        return (int) (odds.reachedAt(a, b) / WAYS_A_MILLIONTH);
    }

    public int ends(int side, int n) {
        if (!isSide(side) || n < 0 || n >= told.points) {
            return NONE;
        }
        spreadFromNow();
        long ways = side == 0 ? odds.reachedAt(told.points, n) : odds.reachedAt(n, told.points);
        return (int) (ways / WAYS_A_MILLIONTH);
    }

    public int length() {
        if (!playing) {
            return NONE;
        }
        spreadFromNow();
        long sum = 0;
        int points = told.points;
        for (int n = 0; n < points; n++) {
            sum += (odds.reachedAt(points, n) + odds.reachedAt(n, points)) * (points + n);
        }
        return (int) (sum / WAYS_A_HUNDREDTH);
    }

    private boolean isScore(int a, int b) {
        int points = told.points;
        return a >= 0 && a <= points && b >= 0 && b <= points && (a < points || b < points);
    }

    /** VALUE now, of the LINE-UPS that were weighed last. */
    private int valueFromNow() {
        return odds.valueOf(court.ours.score, court.theirs.score, 0, 0, court.serves);
    }

    private int valueBehindSub(int side, int goes, int comes) {
        System.arraycopy(court.ours.six, 0, trialOurs, 0, SPOTS);
        System.arraycopy(court.theirs.six, 0, trialTheirs, 0, SPOTS);
        int spot = court.team(side).spotOf(goes);
        if (spot != 0) {
            trialOf(side)[spot - 1] = comes;
        }
        weighTrials();
        return valueFromNow();
    }

    private void offerSubs(int side, Best best) {
        int size = told.squad(side).size;
        for (int goes = 0; goes < size; goes++) {
            for (int comes = 0; comes < size; comes++) {
                if (judgeSub(side, goes, comes) == 0) {
                    best.offer(goes, comes, valueBehindSub(side, goes, comes), side == 0);
                }
            }
        }
    }

    private void forgetSubBests() {
        subBests[0].clear();
        subBests[1].clear();
    }

    private void spreadFromNow() {
        weighNow();
        odds.spread(court.ours.score, court.theirs.score, court.serves);
    }

    // ---- the START GAME

    public int table(int r, int s) {
        if (!playing || !isTurns(r) || !isTurns(s)) {
            return NONE;
        }
        knowTable();
        return startTable[r * SPOTS + s];
    }

    public int safe(int side, int what) {
        if (!isSide(side) || what < 0 || what > 1) {
            return NONE;
        }
        pickSafe(side);
        return pick.part(what);
    }

    public int saddle() {
        if (!playing) {
            return NONE;
        }
        pickSafe(0);
        int least = pick.weight;
        pickSafe(1);
        return least == pick.weight ? 1 : 0;
    }

    public int reply(int side, int turns) {
        if (!isSide(side) || !isTurns(turns)) {
            return NONE;
        }
        pickReply(side, turns);
        return pick.first;
    }

    public int ifSwapped(int side, int spot, int other) {
        if (!isSide(side) || !isSpot(spot) || !isSpot(other) || spot == other) {
            return NONE;
        }
        return valueSwapped(side, spot, other);
    }

    public int bestSwap(int side, int what) {
        if (!isSide(side) || what < 0 || what > 2) {
            return NONE;
        }
        Best best = swapBests[side];
        if (!best.known) {
            offerSwaps(side, best);
        }
        return best.part(what);
    }

    private void knowTable() {
        if (!tableKnown) {
            odds.weigh(told, told.ours.start, told.theirs.start);
            odds.fillTable(startTable, told.first);
            tableKnown = true;
        }
    }

    /** TABLE where a SIDE chooses so many TURNS and the other one so many. */
    private int tableOf(int side, int turns, int others) {
        return side == 0 ? startTable[turns * SPOTS + others] : startTable[others * SPOTS + turns];
    }

    private void pickReply(int side, int others) {
        knowTable();
        pick.clear();
        for (int turns = 0; turns < SPOTS; turns++) {
            int then = tableOf(side, turns, others);
            pick.offer(turns, then, then, side == 0);
        }
    }

    private void pickSafe(int side) {
        knowTable();
        pick.clear();
        for (int turns = 0; turns < SPOTS; turns++) {
            int worst = worstOf(side, turns);
            pick.offer(turns, worst, worst, side == 0);
        }
    }

    private int worstOf(int side, int turns) {
        int worst = tableOf(side, turns, 0);
        for (int others = 1; others < SPOTS; others++) {
            int then = tableOf(side, turns, others);
            worst = side == 0 ? Math.min(worst, then) : Math.max(worst, then);
        }
        return worst;
    }

    private int valueSwapped(int side, int spot, int other) {
        System.arraycopy(told.ours.start, 0, trialOurs, 0, SPOTS);
        System.arraycopy(told.theirs.start, 0, trialTheirs, 0, SPOTS);
        int[] six = trialOf(side);
        int kept = six[spot - 1];
        six[spot - 1] = six[other - 1];
        six[other - 1] = kept;
        weighTrials();
        return odds.valueOf(0, 0, 0, 0, told.first);
    }

    private void offerSwaps(int side, Best best) {
        best.clear();
        for (int spot = 1; spot < SPOTS; spot++) {
            for (int other = spot + 1; other <= SPOTS; other++) {
                best.offer(spot, other, valueSwapped(side, spot, other), side == 0);
            }
        }
    }

    // ---- the classes inside

    /** The best of what was offered, the first of several alike. */
    private static final class Best {
        boolean known;
        int first;
        int second;
        int weight;

        void clear() {
            known = false;
        }

        void offer(int newFirst, int newSecond, int newWeight, boolean wantMost) {
            if (known && (wantMost ? newWeight <= weight : newWeight >= weight)) {
                return;
            }
            known = true;
            first = newFirst;
            second = newSecond;
            weight = newWeight;
        }

        int part(int what) {
            if (what == 0) {
                return first;
            }
            return what == 1 ? second : weight;
        }
    }

    /** A SIDE as the TEXT tells it. */
    private static final class Squad {
        final int[] names = new int[MOST_PLAYERS];
        final int[] serve = new int[MOST_PLAYERS];
        final int[] net = new int[MOST_PLAYERS];
        final int[] back = new int[MOST_PLAYERS];
        final int[] start = new int[SPOTS];
        int size;
        int placed;
        int free = NONE;

        void clear() {
            size = 0;
            placed = 0;
            free = NONE;
        }

        int find(int name) {
            for (int p = 0; p < size; p++) {
                if (names[p] == name) {
                    return p;
                }
            }
            return NONE;
        }

        boolean isStarter(int p) {
            for (int k = 0; k < placed; k++) {
                if (start[k] == p) {
                    return true;
                }
            }
            return false;
        }

        void place(int p) {
            if (placed < SPOTS) {
                start[placed] = p;
                placed++;
            }
        }

        void add(int name, int newServe, int newNet, int newBack) {
            if (size < MOST_PLAYERS) {
                names[size] = name;
                serve[size] = newServe;
                net[size] = newNet;
                back[size] = newBack;
                size++;
            }
        }

        /** How many PLAYERS rank ahead of one. */
        int betterThan(int p) {
            int better = 0;
            for (int q = 0; q < size; q++) {
                int more = skill(q) - skill(p);
                if (more > 0 || more == 0 && q < p) {
                    better++;
                }
            }
            return better;
        }

        private int skill(int p) {
            return serve[p] + net[p] + back[p];
        }
    }

    /** What a TEXT tells. */
    private static final class Told {
        final Squad ours = new Squad();
        final Squad theirs = new Squad();
        int points;
        int subs;
        int edge;
        int first;
        int lines;

        Squad squad(int side) {
            return side == 0 ? ours : theirs;
        }

        void clear() {
            ours.clear();
            theirs.clear();
            points = UNTOLD;
            subs = UNTOLD;
            edge = UNTOLD;
            first = UNTOLD;
            lines = 0;
        }

        void fillUntold() {
            points = points == UNTOLD ? MOST_POINTS : points;
            subs = subs == UNTOLD ? 6 : subs;
            edge = edge == UNTOLD ? 100 : edge;
            first = first == UNTOLD ? 0 : first;
        }
    }

    /** The TAPE, and how it is read as a TEXT up to its first FAULT. */
    private static final class Reader {
        private static final int END = 0;
        private static final int NAME = 1;
        private static final int KEYWORD = 2;
        private static final int NUMBER = 3;
        private static final int SEMICOLON = 4;
        private static final int BAD = 5;

        /** The words that are no NAMES, as named() writes words: five bits a letter. */
        private static final int POINTS = 552909459;
        private static final int SUBS = 644179;
        private static final int EDGE = 168165;
        private static final int OURS = 513619;
        private static final int THEIRS = 679650899;
        private static final int FREE = 215205;
        private static final int START = 20579924;
        private static final int FIRST = 6605428;

        private static final int MOST_LETTERS = 6;
        private static final int MOST_SKILL = 99;
        /** Above every number that a TEXT may tell: longer ones stay here, so none overflows. */
        private static final int HUGE = 1000;

        private static final int MISPLACED = 1;
        private static final int TOO_MUCH = 2;
        private static final int TOLD_ALREADY = 3;
        private static final int NO_STARTS = 4;

        final int[] bytes = new int[MOST_BYTES];
        int size;
        int faultKind;
        int faultPlace = NONE;
        private int length;
        private int at;
        private int place;
        private int kind;
        private int code;

        void take(int number) {
            for (int shift = 24; shift >= 0 && size < MOST_BYTES; shift -= 8) {
                bytes[size] = (number >>> shift) & 255;
                size++;
            }
        }

        /** Reads the first n bytes and empties the TAPE: whether there was no FAULT. */
        boolean readInto(Told told, int n) {
            length = n;
            size = 0;
            at = 0;
            faultKind = 0;
            faultPlace = NONE;
            told.clear();
            advance();
            // A LINE has a byte at least.
            for (int line = 0; line < length && kind != END && faultKind == 0; line++) {
                readLine(told);
                told.lines++;
            }
            if (told.ours.placed < SPOTS || told.theirs.placed < SPOTS) {
                fail(NO_STARTS);
            }
            told.fillUntold();
            return faultKind == 0;
        }

        private void readLine(Told told) {
            switch (kind == KEYWORD ? code : 0) {
                case POINTS:
                    told.points = readSetting(told.points, 3, MOST_POINTS);
                    break;
                case SUBS:
                    told.subs = readSetting(told.subs, 0, 12);
                    break;
                case EDGE:
                    told.edge = readSetting(told.edge, 0, 300);
                    break;
                case OURS:
                    readPlayer(told, told.ours);
                    break;
                case THEIRS:
                    readPlayer(told, told.theirs);
                    break;
                case FREE:
                    readFree(told);
                    break;
                case START:
                    readStart(told);
                    break;
                case FIRST:
                    readFirst(told);
                    break;
                default:
                    fail(MISPLACED);
                    break;
            }
            advance();
            if (kind != SEMICOLON) {
                fail(MISPLACED);
            }
            advance();
        }

        private int readSetting(int before, int least, int most) {
            if (before != UNTOLD) {
                fail(TOLD_ALREADY);
            }
            advance();
            return numberHere(least, most);
        }

        private int numberHere(int least, int most) {
            if (kind != NUMBER) {
                fail(MISPLACED);
            } else if (code < least || code > most) {
                fail(TOO_MUCH);
            }
            return code;
        }

        private void readPlayer(Told told, Squad squad) {
            if (squad.size >= MOST_PLAYERS) {
                fail(TOO_MUCH);
            }
            advance();
            int name = code;
            if (kind != NAME) {
                fail(MISPLACED);
            } else if (told.ours.find(name) != NONE || told.theirs.find(name) != NONE) {
                fail(TOLD_ALREADY);
            }
            advance();
            int serve = numberHere(0, MOST_SKILL);
            advance();
            int net = numberHere(0, MOST_SKILL);
            advance();
            int back = numberHere(0, MOST_SKILL);
            squad.add(name, serve, net, back);
        }

        private void readFree(Told told) {
            advance();
            Squad squad = told.ours.find(code) != NONE ? told.ours : told.theirs;
            int p = kind == NAME ? squad.find(code) : NONE;
            if (p == NONE) {
                fail(MISPLACED);
            } else if (squad.free != NONE || squad.isStarter(p)) {
                fail(TOLD_ALREADY);
            }
            squad.free = p;
        }

        private void readStart(Told told) {
            advance();
            int side = sideHere();
            Squad squad = told.squad(side);
            if (side == NONE) {
                fail(MISPLACED);
            } else if (squad.placed > 0) {
                fail(TOLD_ALREADY);
            }
            for (int spot = 1; spot <= SPOTS && faultKind == 0; spot++) {
                advance();
                int p = kind == NAME ? squad.find(code) : NONE;
                if (p == NONE) {
                    fail(MISPLACED);
                } else if (p == squad.free || squad.isStarter(p)) {
                    fail(TOLD_ALREADY);
                }
                squad.place(p);
            }
        }

        private void readFirst(Told told) {
            if (told.first != UNTOLD) {
                fail(TOLD_ALREADY);
            }
            advance();
            told.first = sideHere();
            if (told.first == NONE) {
                fail(MISPLACED);
            }
        }

        /** The SIDE that the word here names, NONE if it names none. */
        private int sideHere() {
            if (kind != KEYWORD) {
                return NONE;
            }
            if (code == OURS) {
                return 0;
            }
            return code == THEIRS ? 1 : NONE;
        }

        /** Only the first FAULT counts: what is read behind it is of no use any more. */
        private void fail(int newKind) {
            if (faultKind == 0) {
                faultKind = newKind;
                faultPlace = place;
            }
        }

        private void advance() {
            while (at < length && (bytes[at] == 10 || bytes[at] == 32)) {
                at++;
            }
            place = at;
            code = 0;
            if (at >= length) {
                kind = END;
            } else if (isLetter(bytes[at])) {
                takeWord();
            } else if (isDigit(bytes[at])) {
                takeNumber();
            } else {
                kind = bytes[at] == ';' ? SEMICOLON : BAD;
                at++;
            }
        }

        private void takeWord() {
            while (at < length && isLetter(bytes[at])) {
                if (at - place < MOST_LETTERS) {
                    code = code * 32 + bytes[at] - 'a' + 1;
                }
                at++;
            }
            if (at - place > MOST_LETTERS) {
                kind = BAD;
            } else {
                kind = isKeyword(code) ? KEYWORD : NAME;
            }
        }

        private void takeNumber() {
            kind = NUMBER;
            while (at < length && isDigit(bytes[at])) {
                code = Math.min(HUGE, code * 10 + bytes[at] - '0');
                at++;
            }
        }

        private static boolean isLetter(int sign) {
            return sign >= 'a' && sign <= 'z';
        }

        private static boolean isDigit(int sign) {
            return sign >= '0' && sign <= '9';
        }

        private static boolean isKeyword(int word) {
            return word == POINTS || word == SUBS || word == EDGE || word == OURS
                    || word == THEIRS || word == FREE || word == START || word == FIRST;
        }
    }

    /** A SIDE as it plays: its LINE-UP, and the FREE by the SPOT where he is (0: none). */
    private static final class Side {
        final int[] six = new int[SPOTS];
        final int[] mates = new int[MOST_PLAYERS];
        final int[] x = new int[SPOTS];
        final int[] y = new int[SPOTS];
        int freeSpot;
        boolean moved;
        int subsLeft;
        int turned;
        int score;

        void begin(Squad squad, int subs) {
            System.arraycopy(squad.start, 0, six, 0, SPOTS);
            System.arraycopy(FIRST_X, 0, x, 0, SPOTS);
            System.arraycopy(FIRST_Y, 0, y, 0, SPOTS);
            Arrays.fill(mates, NONE);
            freeSpot = 0;
            moved = false;
            subsLeft = subs;
            turned = 0;
            score = 0;
        }

        void copyFrom(Side other) {
            System.arraycopy(other.six, 0, six, 0, SPOTS);
            System.arraycopy(other.mates, 0, mates, 0, MOST_PLAYERS);
            System.arraycopy(other.x, 0, x, 0, SPOTS);
            System.arraycopy(other.y, 0, y, 0, SPOTS);
            freeSpot = other.freeSpot;
            moved = other.moved;
            subsLeft = other.subsLeft;
            turned = other.turned;
            score = other.score;
        }

        /** The SPOT of one of the LINE-UP, 0 for others. */
        int spotOf(int p) {
            for (int k = 0; k < SPOTS; k++) {
                if (six[k] == p) {
                    return k + 1;
                }
            }
            return 0;
        }

        void exchange(int goes, int comes) {
            int spot = spotOf(goes);
            if (spot != 0) {
                six[spot - 1] = comes;
            }
            mates[goes] = comes;
            mates[comes] = goes;
            subsLeft--;
        }

        void turnOnce() {
            int first = six[0];
            for (int k = 1; k < SPOTS; k++) {
                six[k - 1] = six[k];
            }
            six[SPOTS - 1] = first;
            turned = (turned + 1) % SPOTS;
            turnFree();
        }

        private void turnFree() {
            if (freeSpot == 5) {
                // He would come to SPOT 4: he goes, and that is a MOVE.
                freeSpot = 0;
                moved = true;
            } else if (freeSpot != 0) {
                freeSpot = spotBehind(freeSpot, 1);
            }
        }
    }

    /** All that can be undone. */
    private static final class Court {
        final Side ours = new Side();
        final Side theirs = new Side();
        int serves;
        int played;

        Side team(int side) {
            return side == 0 ? ours : theirs;
        }

        void begin(Told told) {
            ours.begin(told.ours, told.subs);
            theirs.begin(told.theirs, told.subs);
            serves = told.first;
            played = 0;
        }

        void copyFrom(Court other) {
            ours.copyFrom(other.ours);
            theirs.copyFrom(other.theirs);
            serves = other.serves;
            played = other.played;
        }

        void award(int side) {
            ours.moved = false;
            theirs.moved = false;
            played++;
            team(side).score++;
            if (serves != side) {
                serves = side;
                team(side).turnOnce();
            }
        }
    }

    /** The POINTS one by one; how many of them count the Court knows, so undoing leaves them. */
    private static final class Log {
        private static final int MOST = 2 * MOST_POINTS - 1;

        final int[] had = new int[MOST];
        final int[] served = new int[MOST];
        final int[] server = new int[MOST];

        void note(int k, int side, int servingSide, int who) {
            if (k >= 0 && k < MOST) {
                had[k] = side;
                served[k] = servingSide;
                server[k] = who;
            }
        }

        int pointsOf(int played, int side, int p) {
            int points = 0;
            for (int k = 0; k < played && k < MOST; k++) {
                if (isPointOf(k, side, p)) {
                    points++;
                }
            }
            return points;
        }

        /** How long the RUN of one who serves is that ends with the latest POINT. */
        int runUpTo(int played, int side, int p) {
            int points = 0;
            for (int k = Math.min(played, MOST) - 1; k >= 0 && isPointOf(k, side, p); k--) {
                points++;
            }
            return points;
        }

        void offerRuns(int played, Best best) {
            for (int k = 0; k < played && k < MOST; k++) {
                int points = runUpTo(k + 1, served[k], server[k]);
                if (points > 0) {
                    best.offer(server[k], served[k], points, true);
                }
            }
        }

        private boolean isPointOf(int k, int side, int p) {
            return had[k] == side && served[k] == side && server[k] == p;
        }
    }

    /** How strong six are, by the TURNS that they have made further. */
    private static final class Force {
        final int[] serve = new int[SPOTS];
        final int[] front = new int[SPOTS];
        final int[] rear = new int[SPOTS];

        void weigh(Squad squad, int[] six) {
            for (int turns = 0; turns < SPOTS; turns++) {
                serve[turns] = squad.serve[six[turns]];
                front[turns] = 0;
                rear[turns] = 0;
                for (int spot = 1; spot <= SPOTS; spot++) {
                    int p = six[(spot - 1 + turns) % SPOTS];
                    if (isFront(spot)) {
                        front[turns] += squad.net[p];
                    } else {
                        rear[turns] += squad.back[p];
                    }
                }
            }
        }
    }

    /** CHANCES, VALUES and WAYS of the two sixes that were weighed last. */
    private static final class Odds {
        private static final int LEAST_CHANCE = 50;
        private static final int MOST_CHANCE = 950;

        private final Force ours = new Force();
        private final Force theirs = new Force();
        private final int[] cycle = new int[CYCLE];
        private final long[] reached = new long[(MOST_POINTS + 1) * (MOST_POINTS + 1)];
        private int[] values = new int[ROW];
        private int[] valuesAbove = new int[ROW];
        private long[] ways = new long[ROW];
        private long[] waysAbove = new long[ROW];
        private int points;
        private int edge;

        void weigh(Told told, int[] sixOurs, int[] sixTheirs) {
            points = told.points;
            edge = told.edge;
            ours.weigh(told.ours, sixOurs);
            theirs.weigh(told.theirs, sixTheirs);
        }

        Force force(int side) {
            return side == 0 ? ours : theirs;
        }

        int chanceOf(int r, int s, int serves) {
            int lead = ours.front[r] + ours.rear[r] - theirs.front[s] - theirs.rear[s];
            int sum = serves == 0 ? 500 + lead + ours.serve[r] : 500 - lead + theirs.serve[s];
            return Math.max(LEAST_CHANCE, Math.min(MOST_CHANCE, sum - edge));
        }

        int streakOf(int side, int n, int serves) {
            int likely = SURE;
            int serving = serves;
            int r = 0;
            int s = 0;
            for (int k = 0; k < n; k++) {
                int sure = chanceOf(r, s, serving);
                likely = likely * (serving == side ? sure : 1000 - sure) / 1000;
                if (serving != side) {
                    serving = side;
                    r = side == 0 ? 1 : 0;
                    s = side == 0 ? 0 : 1;
                }
            }
            return likely;
        }

        int valueOf(int a, int b, int r, int s, int serves) {
            if (a >= points) {
                return SURE;
            }
            if (b >= points) {
                return 0;
            }
            fillCycle(r, s, serves);
            fillValues(a, b, serves);
            return values[b * CYCLE];
        }

        /**
         * TABLE, six cells at once: LINE-UPS that start i TURNS further each are those that come up
         * behind 2 i changes of who serves.
         */
        void fillTable(int[] table, int first) {
            for (int ahead = 0; ahead < SPOTS; ahead++) {
                fillCycle(0, ahead, first);
                fillValues(0, 0, first);
                for (int r = 0; r < SPOTS; r++) {
                    table[r * SPOTS + (r + ahead) % SPOTS] = values[2 * r];
                }
            }
        }

        /** CHANCE of who serves behind each number of changes of who serves. */
        private void fillCycle(int r, int s, int serves) {
            int serving = serves;
            int turnsOurs = r;
            int turnsTheirs = s;
            for (int k = 0; k < CYCLE; k++) {
                cycle[k] = chanceOf(turnsOurs, turnsTheirs, serving);
                serving = 1 - serving;
                if (serving == 0) {
                    turnsOurs = (turnsOurs + 1) % SPOTS;
                } else {
                    turnsTheirs = (turnsTheirs + 1) % SPOTS;
                }
            }
        }

        /** VALUES at points a, b (and b up to all) for each number of changes, from the end back. */
        private void fillValues(int a, int b, int serves) {
            Arrays.fill(values, SURE);
            for (int i = points - 1; i >= a; i--) {
                int[] spent = valuesAbove;
                valuesAbove = values;
                values = spent;
                for (int k = 0; k < CYCLE; k++) {
                    values[points * CYCLE + k] = 0;
                }
                for (int j = points - 1; j >= b; j--) {
                    fillCell(j * CYCLE, serves);
                }
            }
        }

        private void fillCell(int base, int serves) {
            int next = base + CYCLE;
            for (int k = 0; k < CYCLE; k++) {
                int changed = k + 1 == CYCLE ? 0 : k + 1;
                int sure = cycle[k];
                boolean oursServe = ((k + serves) & 1) == 0;
                int kept = oursServe ? valuesAbove[base + k] : values[next + k];
                int lost = oursServe ? values[next + changed] : valuesAbove[base + changed];
                values[base + k] = (sure * kept + (1000 - sure) * lost) / 1000;
            }
        }

        /** WAYS from points a, b on, the LINE-UPS as weighed. */
        void spread(int a, int b, int serves) {
            fillCycle(0, 0, serves);
            Arrays.fill(reached, 0L);
            Arrays.fill(ways, 0L);
            ways[b * CYCLE] = ALL_WAYS;
            for (int i = a; i <= points; i++) {
                Arrays.fill(waysAbove, 0L);
                for (int j = b; j <= points; j++) {
                    spreadCell(i, j, serves);
                }
                long[] spent = ways;
                ways = waysAbove;
                waysAbove = spent;
            }
        }

        private void spreadCell(int i, int j, int serves) {
            int base = j * CYCLE;
            boolean ends = i >= points || j >= points;
            long sum = 0;
            for (int k = 0; k < CYCLE; k++) {
                long here = ways[base + k];
                sum += here;
                if (here != 0 && !ends) {
                    int changed = k + 1 == CYCLE ? 0 : k + 1;
                    boolean oursServe = ((k + serves) & 1) == 0;
                    long kept = here * cycle[k] / 1000;
                    waysAbove[base + (oursServe ? k : changed)] += oursServe ? kept : here - kept;
                    ways[base + CYCLE + (oursServe ? changed : k)] += oursServe ? here - kept : kept;
                }
            }
            reached[i * (MOST_POINTS + 1) + j] = sum;
        }

        long reachedAt(int a, int b) {
            return reached[a * (MOST_POINTS + 1) + b];
        }
    }
}
