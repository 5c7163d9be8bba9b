/**
 * CHANCE, VALUE, the START GAME, WAYS and what is asked of them: a test for each sentence with an edge. What can't
 * be worked out in a line beside it (the tables of LOPSIDED and its like, LIKELY of long sets) was worked out from
 * the document by a recursion of its own, with whole numbers of any length.
 */
public final class OddsEdgesTest extends Sheet {
    /**
     * CHANCE by SERVE alone: ours 530, 540, .. 580 by who serves, theirs 510, 520, .. 560. Two wait a SIDE: the
     * first is better at the net by 20, the second behind.
     */
    private static final String BY_SERVE = "points 3;edge 0;"
            + squad("ours", "abcdefgh", "30 0 0", "40 0 0", "50 0 0", "60 0 0", "70 0 0", "80 0 0", "0 20 10", "0 10 20")
            + squad("theirs", "mnopqrst", "10 0 0", "20 0 0", "30 0 0", "40 0 0", "50 0 0", "60 0 0", "0 20 10", "0 10 20")
            + STARTS;

    /** A FREE with SERVE 90, NET 80, BACK 70. Ours have at first NET 14, BACK 33, and a SERVE of 21. */
    private static final String WITH_FREE = "points 5;" + squad("ours", "abcdefi", "21 1 3", "22 2 5", "23 4 7", "24 8 11",
            "25 16 13", "26 32 17", "90 80 70") + "free i;" + alike("theirs", "mnopqr", "0 0 0") + STARTS;

    private static final String LOPSIDED = "points 3;edge 300;first theirs;"
            + squad("ours", "abcdef", "0 99 50", "0 0 0", "0 0 99", "0 99 0", "0 99 0", "0 99 50")
            + squad("theirs", "mnopqr", "0 0 99", "50 99 0", "50 90 0", "99 0 0", "0 0 0", "0 0 90") + STARTS;
    private static final int[][] LOPSIDED_TABLE = {
        {595828, 785249, 930447, 948269, 837132, 626262}, {769191, 865823, 969864, 966313, 916136, 784626},
        {808270, 922711, 960258, 933382, 848325, 744689}, {573764, 813606, 905455, 848108, 676536, 539653},
        {438796, 667562, 860835, 796130, 567115, 365329}, {443643, 646651, 852487, 843584, 648539, 411833}};

    /** Who is on a SPOT and who is on the third one from it are alike: TURNS by three change nothing. */
    private static final String TWICE_THREE = "points 3;"
            + squad("ours", "abcdef", "30 0 90", "90 90 50", "0 50 30", "30 0 90", "90 90 50", "0 50 30")
            + squad("theirs", "mnopqr", "90 0 0", "0 30 0", "50 50 50", "90 0 0", "0 30 0", "50 50 50") + STARTS;

    private static final String[] GOOD_ORDER = {"90 0 50", "30 50 0", "90 90 0", "30 50 0", "90 0 50", "0 30 90"};
    private static final String[] BAD_ORDER = {"0 90 0", "50 0 30", "50 50 0", "0 0 0", "90 50 90", "50 0 50"};

    private static final String LAST_SPOT = "points 3;"
            + squad("ours", "abcdef", "50 0 30", "0 0 90", "90 50 90", "90 90 50", "0 0 0", "0 30 0")
            + squad("theirs", "mnopqr", "50 0 50", "0 90 90", "30 90 30", "0 30 50", "0 50 90", "50 0 0") + STARTS;

    public static void main(String[] args) {
        OddsEdgesTest test = new OddsEdgesTest();
        test.chanceOfAll();
        test.chanceFiftyAtLeast();
        test.chanceNineHundredFiftyAtMost();
        test.chanceWithTheFree();
        test.chanceRefused();
        test.lineUpsWithoutTheFree();
        test.chanceAt();
        test.chanceAtRefused();
        test.valueOfAnEnd();
        test.valueByChance();
        test.valueTurnsRound();
        test.valueDownwards();
        test.valueWithoutTheFree();
        test.valueAtRefused();
        test.table();
        test.tableOfTheStartAsTold();
        test.tableRefused();
        test.safe();
        test.safeOfSeveral();
        test.saddle();
        test.reply();
        test.worth();
        test.worthRefused();
        test.ifSub();
        test.ifSubRefused();
        test.bestSub();
        test.bestSubOfSeveral();
        test.bestSubNone();
        test.bestMove();
        test.bestMoveOfSeveral();
        test.bestMoveNone();
        test.likely();
        test.likelyDownwards();
        test.likelyRefused();
        test.ends();
        test.length();
        test.streak();
        test.streakAtMost();
        test.streakDownwards();
        test.weak();
        test.strong();
        test.ifSwapped();
        test.bestSwap();
        test.bestSwapOfSeveral();
        test.allAnew();
        test.check.end();
    }

    // ---- CHANCE

    private void chanceOfAll() {
        says("500, and SERVE of who is on its SPOT 1, NET of its FRONT, BACK of its REAR, less NET of the other's FRONT "
                + "and BACK of its REAR, less edge");
        begin(WITH_FREE);
        due("ours", x.chance(), 500 + 21 + (2 + 4 + 8) + (3 + 17 + 13) - 100);
        play("1");
        due("theirs", x.chance(), 500 - (2 + 4 + 8) - (3 + 17 + 13) - 100);
        play("0");
        // b serves, c d e at the net, a on 6, f on 5
        due("ours turned", x.chance(), 500 + 22 + (4 + 8 + 16) + (5 + 3 + 17) - 100);
        begin("edge 300;" + BLANK);
        due("edge", x.chance(), 200);
        begin("edge 0;" + BLANK);
        due("no edge", x.chance(), 500);
    }

    private static String against(String ofN, String ofO, String settings) {
        return settings + alike("ours", "abcdef", "0 0 0")
                + squad("theirs", "mnopqr", "0 0 0", ofN, ofO, "0 0 0", "0 0 0", "0 0 0") + STARTS;
    }

    private void chanceFiftyAtLeast() {
        says("50 at least");
        begin(against("0 99 0", "0 50 0", "edge 300;"));
        due("200 less 149", x.chance(), 51);
        begin(against("0 99 0", "0 51 0", "edge 300;"));
        due("200 less 150", x.chance(), 50);
        begin(against("0 99 0", "0 52 0", "edge 300;"));
        due("200 less 151", x.chance(), 50);
        due("at", x.chanceAt(0, 0, 0), 50);
        due("the last point", x.valueAt(24, 24, 0, 0, 0), 50000);
        begin("edge 300;" + alike("ours", "abcdef", "0 0 0") + alike("theirs", "mnopqr", "99 99 99") + STARTS);
        due("200 less 594", x.chance(), 50);
    }

    private void chanceNineHundredFiftyAtMost() {
        says("950 at most");
        for (int back = 53; back <= 56; back++) {
            begin("edge 0;" + squad("ours", "abcdef", "99 0 " + back, "0 99 0", "0 99 0", "0 99 0", "0 0 0", "0 0 0")
                    + alike("theirs", "mnopqr", "0 0 0") + STARTS);
            due("500 and 396 and " + back, x.chance(), back == 53 ? 949 : 950);
        }
        due("at", x.chanceAt(0, 0, 0), 950);
        due("the last point", x.valueAt(24, 24, 0, 0, 0), 950000);
        begin("edge 0;" + alike("ours", "abcdef", "99 99 99") + alike("theirs", "mnopqr", "0 0 0") + STARTS);
        due("500 and 693", x.chance(), 950);
    }

    private void chanceWithTheFree() {
        says("Where the FREE is on the court his BACK counts, as of one who is there");
        begin(WITH_FREE);
        x.move(0, 5);
        due("70 for 13", x.chance(), 468 - 13 + 70);
        play("1");
        due("theirs serve", x.chance(), 353 + 13 - 70);
        x.move(0, 0);
        due("he is out", x.chance(), 353);
        play("1");
        x.move(0, 1);
        due("70 for 3, no SERVE", x.chance(), 353 + 3 - 70);
        play("0");
        due("on 6, b serves", x.chance(), 500 + 22 + 28 + (5 + 70 + 17) - 100);
        says("less BACK of the other's REAR, the FREE of the other SIDE among them");
        begin("points 5;" + alike("ours", "abcdefi", "0 0 0") + "free i;"
                + squad("theirs", "mnopqru", "9 2 3", "9 2 4", "9 2 5", "9 2 6", "9 2 7", "9 2 8", "90 80 70") + "free u;" + STARTS);
        due("without him", x.chance(), 400 - 6 - (3 + 8 + 7));
        x.move(1, 6);
        due("70 for 8", x.chance(), 400 - 6 - (3 + 70 + 7));
        due("strength of theirs", x.strength(1, 1), 3 + 70 + 7);
        due("strength of ours", x.strength(0, 1), 0);
    }

    /** At 4 to 4 of 5 points CHANCE of LINE-UPS is all that counts: with the FREE on 6 or 5 it would be another one. */
    private void lineUpsWithoutTheFree() {
        says("LINE-UP of a SIDE: its six, the FREE aside: for him the one for whom he stands");
        begin(WITH_FREE);
        play("00001111");
        x.move(0, 6);
        due("chance with him", x.chance(), 353 + 17 - 70);
        dueEach("weak by 0 turns", new int[] {x.weak(0, 0), x.weak(0, 1)}, 0, 353);
        due("worth", x.worth(0), 353000);
        dueEach("likely, ends", new int[] {x.likely(4, 5), x.ends(0, 4)}, 353000, 647000);
        due("streak", x.streak(1, 1), 353000);
        due("valueAt", x.valueAt(4, 4, 0, 0, 1), 647000);
        // SERVE, NET, BACK by TURNS 0 .. 5: 21 14 33, 22 28 25, 23 56 15, 24 49 23, 25 35 31, 26 7 41
        dueEach("strong by 3 turns", new int[] {x.strong(0, 0), x.strong(0, 1)}, 3, 400 + 24 + 49 + 23);
        begin("points 3;edge 0;" + alike("ours", "abcdefi", "0 0 0") + "free i;"
                + alike("theirs", "mnopqru", "0 0 0").replace("theirs u 0 0 0", "theirs u 0 0 99") + "free u;" + STARTS);
        x.move(1, 5);
        dueEach("strong of ours", new int[] {x.strong(0, 1), x.chance()}, 500, 401);
        dueEach("weak of theirs", new int[] {x.weak(1, 0), x.weak(1, 1)}, 0, 500);
        due("length", x.length(), 412);
    }

    private void chanceRefused() {
        says("-2: the set is OVER");
        begin("points 3;" + BLANK);
        play("00");
        due("not over", x.chance(), 400);
        play("0");
        due("over", x.chance(), -2);
        x.undo();
        due("not over", x.chance(), 400);
    }

    private void chanceAt() {
        says("CHANCE, were LINE-UPS as now TURNED r, s (0 .. 5) times further, of a SIDE that would serve");
        begin(BY_SERVE);
        int[] ours = {530, 540, 550, 560, 570, 580};
        int[] theirs = {510, 520, 530, 540, 550, 560};
        for (int turns = 0; turns < 6; turns++) {
            due("ours", x.chanceAt(turns, 5 - turns, 0), ours[turns]);
            due("theirs", x.chanceAt(5 - turns, turns, 1), theirs[turns]);
        }
        play("10");
        due("from now on", x.chanceAt(0, 0, 0), 540);
        due("round", x.chanceAt(5, 0, 0), 530);
        due("round", x.chanceAt(0, 5, 1), 510);
        begin(WITH_FREE);
        x.move(0, 5);
        due("the FREE aside", x.chanceAt(0, 0, 0), 468);
        due("the FREE aside", x.chanceAt(0, 0, 1), 353);
    }

    private void chanceAtRefused() {
        says("chanceAt NONE: no such ones");
        begin(BY_SERVE);
        dueEach("chanceAt", new int[] {x.chanceAt(6, 0, 0), x.chanceAt(-1, 0, 0), x.chanceAt(0, 6, 0), x.chanceAt(0, -1, 0),
            x.chanceAt(0, 0, 2), x.chanceAt(0, 0, -1)}, NONE, NONE, NONE, NONE, NONE, NONE);
        play("000");
        due("OVER, were they to serve", x.chanceAt(1, 0, 0), 540);
    }

    // ---- VALUE

    private void valueOfAnEnd() {
        says("1000000, 0, if a SIDE has as many as points");
        begin(BY_SERVE);
        for (int k = 0; k < 3; k++) {
            due("ours", x.valueAt(3, k, 5, 5, k % 2), 1000000);
            due("theirs", x.valueAt(k, 3, 0, 1, k % 2), 0);
        }
        play("000");
        due("ours", x.value(), 1000000);
        begin(BY_SERVE);
        play("111");
        due("theirs", x.value(), 0);
    }

    private void valueByChance() {
        says("c times the VALUE if who serves has the POINT, and 1000 less c times that if not");
        begin(BY_SERVE);
        due("a serves", x.valueAt(2, 2, 0, 0, 0), 530000);
        due("m serves", x.valueAt(2, 2, 0, 0, 1), 490000);
        says("the other one TURNS, and serves");
        due("a, then n", x.valueAt(2, 1, 0, 0, 0), 530000 + 470 * (1000 - 520));
        due("m, then b", x.valueAt(1, 2, 0, 0, 1), 490 * 540);
        due("a twice", x.valueAt(1, 2, 0, 0, 0), 530 * 530);
        due("m twice", x.valueAt(2, 1, 0, 0, 1), 490000 + 510 * 490);
        play("0011");
        due("n serves", x.value(), 480000);
    }

    private void valueTurnsRound() {
        says("LINE-UPS turned r, s times further");
        begin(BY_SERVE);
        due("a, then m behind r", x.valueAt(2, 1, 0, 5, 0), 530000 + 470 * (1000 - 510));
        due("m, then a behind f", x.valueAt(1, 2, 5, 0, 1), 490 * 530);
        due("f", x.valueAt(2, 2, 5, 0, 0), 580000);
        due("r", x.valueAt(2, 2, 0, 5, 1), 440000);
        play("10");
        due("b", x.valueAt(2, 2, 0, 0, 0), 540000);
        due("a behind f", x.valueAt(2, 2, 5, 0, 0), 530000);
    }

    private void valueDownwards() {
        says("together by 1000, downwards");
        begin("points 3;edge 25;" + BLANK);
        due("2 to 1", x.valueAt(2, 1, 0, 0, 0), 475000 + 525 * 525);
        due("1 to 2", x.valueAt(1, 2, 0, 0, 1), 525 * 475);
        // 475 times 750625 and 525 times 249375 are 356546875 and 130921875
        due("1 to 1", x.valueAt(1, 1, 0, 0, 0), 487468);
        // 475 three times: 107171875; nothing comes of an end that theirs have
        due("0 to 2", x.valueAt(0, 2, 0, 0, 0), 107171);
        says("downwards, at each points");
        begin("edge 0;" + BLANK);
        due("even chances", x.value(), 499990);
        begin("edge 100;" + BLANK);
        due("400", x.value(), 488285);
        begin("edge 100;first theirs;" + BLANK);
        due("400 of theirs", x.value(), 511682);
    }

    private void valueWithoutTheFree() {
        says("by CHANCE c (of LINE-UPS, no FREE)");
        begin(WITH_FREE);
        due("value", x.value(), 642875);
        x.move(0, 5);
        due("value", x.value(), 642875);
        due("the last point", x.valueAt(4, 4, 0, 0, 0), 468000);
        play("1111");
        x.move(0, 0);
        due("0 to 4", x.valueAt(4, 4, 0, 0, 1), 647000);
    }

    private void valueAtRefused() {
        says("points a, b (0 to as many as points, not both so many); NONE: no such ones");
        begin(BY_SERVE);
        due("0, 0 is one", x.valueAt(0, 0, 0, 0, 0), 522350);
        due("and now", x.value(), 522350);
        dueEach("a, b", new int[] {x.valueAt(3, 3, 0, 0, 0), x.valueAt(4, 0, 0, 0, 0), x.valueAt(0, 4, 0, 0, 0),
            x.valueAt(-1, 0, 0, 0, 0), x.valueAt(0, -1, 0, 0, 0), x.valueAt(3, 4, 0, 0, 0), x.valueAt(-1, 3, 0, 0, 0)},
                NONE, NONE, NONE, NONE, NONE, NONE, NONE);
        dueEach("r, s, serves", new int[] {x.valueAt(0, 0, 6, 0, 0), x.valueAt(0, 0, -1, 0, 0), x.valueAt(0, 0, 0, 6, 0),
            x.valueAt(0, 0, 0, -1, 0), x.valueAt(0, 0, 0, 0, 2), x.valueAt(0, 0, 0, 0, -1), x.valueAt(3, 0, 6, 0, 0)},
                NONE, NONE, NONE, NONE, NONE, NONE, NONE);
        play("000");
        due("OVER, too", x.valueAt(2, 2, 0, 0, 0), 530000);
    }

    // ---- the START GAME

    private void table() {
        says("TABLE of r, s: VALUE at 0, 0 with who serves first");
        begin(LOPSIDED);
        for (int r = 0; r < 6; r++) {
            for (int s = 0; s < 6; s++) {
                due("table(" + r + ", " + s + ")", x.table(r, s), LOPSIDED_TABLE[r][s]);
            }
        }
        // The same ones on the same SPOTS, told in another order: numbers are no SPOTS.
        begin("points 3;edge 300;first theirs;"
                + squad("ours", "fedcba", "0 99 50", "0 99 0", "0 99 0", "0 0 99", "0 0 0", "0 99 50")
                + squad("theirs", "nmporq", "50 99 0", "0 0 99", "99 0 0", "50 90 0", "0 0 90", "0 0 0") + STARTS);
        for (int r = 0; r < 6; r++) {
            due("table(" + r + ", 1)", x.table(r, 1), LOPSIDED_TABLE[r][1]);
        }
        due("value", x.value(), LOPSIDED_TABLE[0][0]);
        begin(LOPSIDED.replace("first theirs;", ""));
        due("ours serve first", x.table(0, 0), 437062);
        due("ours serve first", x.table(5, 5), 123195);
    }

    private void tableOfTheStartAsTold() {
        says("from its start as told");
        begin(LOPSIDED + "ours z 99 99 99;");
        x.sub(0, 1, 6);
        play("01");
        due("points, turns, a SUB", x.table(3, 4), LOPSIDED_TABLE[3][4]);
        due("safe", x.safe(0, 1), 769191);
        play("11");
        due("OVER", x.table(5, 0), LOPSIDED_TABLE[5][0]);
        due("saddle, OVER", x.saddle(), 0);
        due("reply, OVER", x.reply(0, 5), 1);
    }

    private void tableRefused() {
        says("TABLE (0 .. 5 each); NONE: no such ones");
        begin(LOPSIDED);
        dueEach("table", new int[] {x.table(6, 0), x.table(-1, 0), x.table(0, 6), x.table(0, -1), x.table(5, 5)},
                NONE, NONE, NONE, NONE, LOPSIDED_TABLE[5][5]);
    }

    private void safe() {
        says("SAFE of SIDE 0: the r of which the least of its row is greatest; of SIDE 1: the s of which the greatest of "
                + "its column is least");
        begin(LOPSIDED);
        dueEach("safe", new int[] {x.safe(0, 0), x.safe(0, 1), x.safe(1, 0), x.safe(1, 1)}, 1, 769191, 5, 784626);
        says("safe NONE: no such ones");
        dueEach("safe", new int[] {x.safe(2, 0), x.safe(-1, 0), x.safe(0, 2), x.safe(1, -1)}, NONE, NONE, NONE, NONE);
    }

    private void safeOfSeveral() {
        says("of several the least");
        begin(TWICE_THREE);
        // 819655 792178 789311, 816188 789760 789667, 793160 762213 762373, each twice a row and a column
        due("table", x.table(4, 5), 789667);
        due("table", x.table(1, 2), 789667);
        dueEach("safe", new int[] {x.safe(0, 0), x.safe(0, 1), x.safe(1, 0), x.safe(1, 1)}, 1, 789667, 2, 789667);
        begin("points 3;" + BLANK);
        dueEach("all alike", new int[] {x.safe(0, 0), x.safe(1, 0)}, 0, 0);
    }

    private void saddle() {
        says("SADDLE: the least of SAFE's row of SIDE 0 is the greatest of SAFE's column of SIDE 1");
        begin(LOPSIDED);
        due("769191, 784626", x.saddle(), 0);
        begin(TWICE_THREE);
        due("789667 both", x.saddle(), 1);
        begin("points 3;" + squad("ours", "abcdef", "30 50 0", "50 50 90", "50 0 90", "50 30 90", "50 50 50", "30 30 0")
                + squad("theirs", "mnopqr", "50 50 0", "90 50 30", "30 0 90", "90 50 50", "30 0 0", "30 30 0") + STARTS);
        dueEach("safe", new int[] {x.safe(0, 0), x.safe(0, 1), x.safe(1, 0), x.safe(1, 1)}, 3, 723152, 2, 723152);
        due("723152 both", x.saddle(), 1);
    }

    private void reply() {
        says("The best TURNS of a SIDE against so many of the other one (SIDE 0: the greatest VALUE, SIDE 1: the least)");
        begin(LOPSIDED);
        dueEach("ours", new int[] {x.reply(0, 0), x.reply(0, 1), x.reply(0, 2), x.reply(0, 3), x.reply(0, 4), x.reply(0, 5)},
                2, 2, 1, 1, 1, 1);
        dueEach("theirs", new int[] {x.reply(1, 0), x.reply(1, 1), x.reply(1, 2), x.reply(1, 3), x.reply(1, 4), x.reply(1, 5)},
                0, 0, 5, 5, 5, 5);
        says("reply: the least of several");
        begin(TWICE_THREE);
        dueEach("ours", new int[] {x.reply(0, 0), x.reply(0, 1), x.reply(0, 2), x.reply(0, 5)}, 0, 0, 1, 1);
        dueEach("theirs", new int[] {x.reply(1, 0), x.reply(1, 1), x.reply(1, 2), x.reply(1, 5)}, 2, 2, 1, 1);
        says("reply NONE: no such ones");
        dueEach("reply", new int[] {x.reply(2, 0), x.reply(-1, 0), x.reply(0, 6), x.reply(1, -1)}, NONE, NONE, NONE, NONE);
    }

    // ---- what would be

    private void worth() {
        says("How much VALUE now changes by a POINT of a SIDE (0: VALUE then less VALUE now)");
        begin(BY_SERVE);
        play("001");
        // n serves at 2 to 1: 520 of 480000, 480 of all
        due("ours have it then", x.worth(0), 1000000 - 729600);
        due("theirs serve on", x.worth(1), 480000 - 729600);
        begin(BY_SERVE);
        play("011");
        // n serves at 1 to 2: 480 of b's 540000
        due("ours turn", x.worth(0), 540000 - 259200);
        due("theirs have it then", x.worth(1), -259200);
        begin(BY_SERVE);
        play("110");
        // b serves at 1 to 2: 540 of 540000
        due("ours serve on", x.worth(0), 540000 - 291600);
        due("theirs have it then", x.worth(1), -291600);
        begin(BY_SERVE);
        play("100");
        // b serves at 2 to 1: 540 of all, 460 of what o leaves, 470000
        due("ours have it then", x.worth(0), 1000000 - 756200);
        due("theirs turn", x.worth(1), 470000 - 756200);
    }

    private void worthRefused() {
        says("-2000000: the set is OVER, no such SIDE");
        begin(BY_SERVE);
        due("side 2", x.worth(2), NO_WORTH);
        due("side -1", x.worth(-1), NO_WORTH);
        play("111");
        due("over", x.worth(0), NO_WORTH);
        due("over", x.worth(1), NO_WORTH);
        due("both", x.worth(2), NO_WORTH);
    }

    private void ifSub() {
        says("VALUE behind a SUB, not done");
        begin(BY_SERVE);
        play("1100");
        // b serves at 2 to 2, c d e at the net, f and a behind
        due("value", x.value(), 540000);
        due("g for b, no SERVE", x.ifSub(0, 1, 6), 510000);
        due("g for c", x.ifSub(0, 2, 6), 560000);
        due("h for c", x.ifSub(0, 2, 7), 550000);
        due("h for a", x.ifSub(0, 0, 7), 560000);
        // theirs turned once: n on 1, o p q at the net, r and m behind
        due("s for o", x.ifSub(1, 2, 6), 520000);
        due("t for n", x.ifSub(1, 1, 7), 520000);
        due("not done", x.value(), 540000);
        due("not done", x.count(6), 4);
        x.sub(0, 2, 6);
        due("c for g", x.ifSub(0, 6, 2), 540000);
        says("LINE-UP: for the FREE the one for whom he stands");
        begin(WITH_FREE + "ours z 0 9 9;");
        play("1111000");
        x.move(0, 6);
        // b serves at 3 to 4: twice 22 + 28 + 25 more than 400; with z for b 0 + 28 + 29
        due("value", x.value(), 475 * 475);
        due("z for b", x.ifSub(0, 1, 7), 457 * 457);
    }

    private void ifSubRefused() {
        says("-2 .. -6 as of sub(); NONE: no such ones");
        begin(BY_SERVE + "subs 2;");
        dueEach("ifSub", new int[] {x.ifSub(2, 0, 6), x.ifSub(0, 8, 6), x.ifSub(0, 0, 8), x.ifSub(0, 0, -1), x.ifSub(0, 6, 7),
            x.ifSub(0, 0, 1)}, NONE, NONE, NONE, NONE, -4, -5);
        x.sub(0, 0, 6);
        due("these two", x.ifSub(0, 6, 7), -6);
        x.sub(0, 6, 0);
        due("none left", x.ifSub(0, 1, 7), -3);
        play("000");
        due("over", x.ifSub(1, 0, 6), -2);
    }

    private int[] bestSub(int side) {
        return new int[] {x.bestSub(side, 0), x.bestSub(side, 1), x.bestSub(side, 2)};
    }

    private void bestSub() {
        says("The SUB that can be by which VALUE is best for a SIDE");
        begin(BY_SERVE.replace("ours h 0 10 20", "ours h 99 0 0"));
        play("1100");
        dueEach("h for b, who serves", bestSub(0), 1, 7, 599000);
        x.sub(0, 1, 7);
        dueEach("g for one at the net", bestSub(0), 2, 6, 619000);
        x.sub(0, 2, 6);
        dueEach("even the least bad one", bestSub(0), 6, 2, 599000);
        x.undo();
        dueEach("undone", bestSub(0), 2, 6, 619000);
        // b's place is h's: 599; o p q are at the net, r and m behind
        dueEach("theirs", bestSub(1), 0, 7, 579000);
        x.sub(1, 0, 7);
        dueEach("theirs behind it", bestSub(1), 2, 6, 559000);
        x.undo();
        dueEach("theirs undone", bestSub(1), 0, 7, 579000);
        play("1");
        due("over", x.bestSub(0, 0), -2);
        says("bestSub NONE: no such ones");
        dueEach("bestSub", new int[] {x.bestSub(2, 0), x.bestSub(-1, 0), x.bestSub(0, 3), x.bestSub(0, -1)},
                NONE, NONE, NONE, NONE);
    }

    private void bestSubOfSeveral() {
        says("of several the first by who goes, then by who comes");
        begin(BY_SERVE);
        play("1100");
        // 20 more by h for 0 or 5, who are behind, or g for 2, 3, 4
        dueEach("ours", bestSub(0), 0, 7, 560000);
        dueEach("theirs", bestSub(1), 0, 7, 520000);
        begin("points 3;" + BLANK);
        due("all alike, who goes", x.bestSub(1, 0), 0);
        due("all alike, who comes", x.bestSub(1, 1), 6);
        begin("points 3;" + BLANK.replace("start ours a b c d e f", "start ours h g f e d c"));
        due("by numbers, not by SPOTS", x.bestSub(0, 0), 2);
        due("by numbers, not by SPOTS", x.bestSub(0, 1), 0);
    }

    private void bestSubNone() {
        says("-2: none can be");
        begin("subs 0;" + BY_SERVE);
        dueEach("none at all", bestSub(0), -2, -2, -2);
        due("NONE goes first", x.bestSub(0, 3), NONE);
        begin("points 3;" + alike("ours", "abcdefg", "0 0 0") + alike("theirs", "mnopqr", "0 0 0") + STARTS + "free g;");
        due("only the free waits", x.bestSub(0, 0), -2);
        due("nobody waits", x.bestSub(1, 2), -2);
        begin("subs 1;" + BY_SERVE);
        x.sub(0, 0, 6);
        due("none left", x.bestSub(0, 1), -2);
        due("theirs have one", x.bestSub(1, 1) >= 6, true);
        x.undo();
        due("undone", x.bestSub(0, 1) >= 6, true);
    }

    private static final String FREE_AMONG = "points 5;" + squad("ours", "abcdefi", "0 0 30", "0 0 0", "0 0 0", "0 0 0",
            "0 0 20", "0 0 10", "0 0 50") + "free i;" + alike("theirs", "mnopqr", "0 0 0") + STARTS;

    private void bestMove() {
        says("The REAR SPOT to which the FREE can come now by which CHANCE now is best for the SIDE");
        begin(FREE_AMONG + "first theirs;");
        dueEach("for 10 on 6, theirs serve", new int[] {x.bestMove(0, 0), x.bestMove(0, 1)}, 6, 400 - 60 - 40);
        begin(FREE_AMONG.replace("ours a 0 0 30", "ours a 0 0 0"));
        dueEach("not for 0 on 1, ours serve", new int[] {x.bestMove(0, 0), x.bestMove(0, 1)}, 6, 400 + 30 + 40);
        begin(FREE_AMONG.replace("ours a 0 0 30", "ours a 0 0 0") + "first theirs;");
        dueEach("for 0 on 1, theirs serve", new int[] {x.bestMove(0, 0), x.bestMove(0, 1)}, 1, 400 - 30 - 50);
        begin(FREE_AMONG.replace("ours e 0 0 20", "ours e 0 0 0"));
        dueEach("for 0 on 5", new int[] {x.bestMove(0, 0), x.bestMove(0, 1)}, 5, 400 + 40 + 50);
        begin(FREE_AMONG.replace("ours i 0 0 50", "ours i 0 0 0"));
        dueEach("the least bad one", new int[] {x.bestMove(0, 0), x.bestMove(0, 1)}, 6, 400 + 60 - 10);
        begin(FREE_AMONG.replace("ours i 0 0 50", "ours i 0 0 0") + "first theirs;");
        dueEach("the least bad one", new int[] {x.bestMove(0, 0), x.bestMove(0, 1)}, 6, 400 - 60 + 10);
        due("nobody moved", x.on(0, 6), 5);
        begin(FREE_AMONG.replace("theirs n 0 0 0", "theirs n 7 9 0"));
        due("against theirs as they stand", x.bestMove(0, 1), 400 + 60 + 40 - 9);
        play("1");
        due("against theirs as they stand", x.bestMove(0, 1), 400 + 7 - 60 - 40);
    }

    private void bestMoveOfSeveral() {
        says("of several the first of 1, 6, 5");
        begin("points 5;" + BLANK);
        due("ours serve", x.bestMove(0, 0), 6);
        due("theirs do not", x.bestMove(1, 0), 1);
        begin(FREE_AMONG.replace("ours e 0 0 20", "ours e 0 0 10") + "first theirs;");
        due("6 and 5", x.bestMove(0, 0), 6);
        begin(FREE_AMONG.replace("ours f 0 0 10", "ours f 0 0 30").replace("ours e 0 0 20", "ours e 0 0 30") + "first theirs;");
        due("1, 6, 5", x.bestMove(0, 0), 1);
    }

    private void bestMoveNone() {
        says("bestMove -2: none; NONE: no such ones");
        begin(FREE_AMONG);
        dueEach("theirs have none", new int[] {x.bestMove(1, 0), x.bestMove(1, 1)}, -2, -2);
        dueEach("no such ones", new int[] {x.bestMove(2, 0), x.bestMove(-1, 0), x.bestMove(0, 2), x.bestMove(0, -1),
            x.bestMove(1, 2)}, NONE, NONE, NONE, NONE, NONE);
        x.move(0, 5);
        due("he is there", x.bestMove(0, 0), -2);
        play("0");
        due("he is there", x.bestMove(0, 1), -2);
        x.move(0, 0);
        due("no point since", x.bestMove(0, 0), -2);
        play("0");
        due("now", x.bestMove(0, 0), 6);
        play("000");
        due("over", x.bestMove(0, 0), -2);
    }

    // ---- WAYS

    private void likely() {
        says("LIKELY that the set, from now on, comes to points a, b (1000000 if it is there; 0 if it can't)");
        begin(BY_SERVE);
        due("it is there", x.likely(0, 0), 1000000);
        due("a has it", x.likely(1, 0), 530000);
        due("a loses it", x.likely(0, 1), 470000);
        due("1 to 1", x.likely(1, 1), 530 * 470 + 470 * 480);
        due("a three times", x.likely(3, 0), 530 * 530 * 530 / 1000);
        due("n twice", x.likely(0, 3), 470 * 520 * 520 / 1000);
        play("10");
        due("it is there", x.likely(1, 1), 1000000);
        dueEach("it can't", new int[] {x.likely(0, 0), x.likely(1, 0), x.likely(0, 1), x.likely(3, 0), x.likely(0, 3)},
                0, 0, 0, 0, 0);
        due("b has it", x.likely(2, 1), 540000);
        play("00");
        due("over", x.likely(3, 1), 1000000);
        due("over, no more", x.likely(3, 2), 0);
        due("over, no other", x.likely(1, 3), 0);
    }

    private void likelyDownwards() {
        says("CHANCE times it by 1000, downwards, goes on by a POINT of who serves, all the rest by one of the other SIDE");
        begin("edge 27;" + alike("ours", "abcdef", "49 0 0") + alike("theirs", "mnopqr", "0 0 0") + STARTS);
        due("131619999999", x.likely(11, 13), 131619);
        begin("edge 30;" + BLANK);
        due("all the rest", x.likely(22, 17), 93825);
        says("LIKELY is a sum of such, by 1000000, downwards");
        begin("points 3;edge 167;" + BLANK);
        due("333 three times", x.likely(3, 0), 36926);
        // 2 to 1 by 333 333 667, by 333 667 667, by 667 667 333: 73962.963, 148148.037, 148148.037
        due("2 to 1", x.likely(2, 1), 370259);
    }

    private void likelyRefused() {
        says("NONE: no such ones (0 to as many as points, not both so many)");
        begin(BY_SERVE);
        dueEach("likely", new int[] {x.likely(3, 3), x.likely(4, 0), x.likely(0, 4), x.likely(-1, 0), x.likely(0, -1),
            x.likely(4, 3), x.likely(3, -1)}, NONE, NONE, NONE, NONE, NONE, NONE, NONE);
    }

    private void ends() {
        says("LIKELY that a SIDE has the set and the other one n points (0 to points less 1) then");
        begin(BY_SERVE);
        due("3 to 0", x.ends(0, 0), 530 * 530 * 530 / 1000);
        due("0 to 3", x.ends(1, 0), 470 * 520 * 520 / 1000);
        play("001");
        dueEach("n serves at 2 to 1, ours", new int[] {x.ends(0, 0), x.ends(0, 1), x.ends(0, 2)}, 0, 480000, 520 * 480);
        dueEach("n serves at 2 to 1, theirs", new int[] {x.ends(1, 0), x.ends(1, 1), x.ends(1, 2)}, 0, 0, 520 * 520);
        says("ends NONE: no such ones");
        dueEach("ends", new int[] {x.ends(0, 3), x.ends(1, 3), x.ends(0, -1), x.ends(2, 0), x.ends(-1, 0)},
                NONE, NONE, NONE, NONE, NONE);
        play("0");
        dueEach("over", new int[] {x.ends(0, 0), x.ends(0, 1), x.ends(0, 2), x.ends(1, 2)}, 0, 1000000, 0, 0);
    }

    private void length() {
        says("how likely each is times how many POINTS there are in all then, together by 10000000000, downwards");
        begin(BY_SERVE);
        play("001");
        // 480 of 4 points, 520 of 5: 4520 thousandths
        due("at 2 to 1", x.length(), 452);
        play("1");
        due("at 2 to 2", x.length(), 500);
        play("1");
        due("over", x.length(), 500);
        begin(BY_SERVE);
        play("111");
        due("over, 0 to 3", x.length(), 300);
        begin("points 3;edge 167;" + BLANK);
        play("001");
        // 667 of 4 points, 333 of 5: 4333 thousandths
        due("downwards", x.length(), 433);
        says("(not by 1000000)");
        begin("points 4;edge 271;" + BLANK);
        due("not 641", x.length(), 642);
        begin("points 25;edge 50;" + BLANK);
        due("not 4482", x.length(), 4483);
    }

    private void streak() {
        says("1000000, for each POINT times CHANCE (or 1000 less CHANCE, if the other one serves) by 1000");
        begin(BY_SERVE);
        dueEach("ours", new int[] {x.streak(0, 0), x.streak(0, 1), x.streak(0, 2), x.streak(0, 3)},
                1000000, 530000, 280900, 148877);
        dueEach("theirs, n behind the first", new int[] {x.streak(1, 0), x.streak(1, 1), x.streak(1, 2), x.streak(1, 3)},
                1000000, 470000, 470 * 520, 470 * 520 * 520 / 1000);
        play("1");
        dueEach("ours, b behind the first", new int[] {x.streak(0, 1), x.streak(0, 2)}, 480000, 480 * 540);
        due("theirs, n", x.streak(1, 2), 520 * 520);
        begin(ALTERNATE);
        // a loses by 1000 less 430; n serves then, NET 40 against 100
        due("theirs turn, ours do not", x.streak(1, 2), 570 * 340);
        begin(ALTERNATE + "first theirs;");
        // m loses by 1000 less 378; b serves then, NET 50 against 70
        due("ours turn, theirs do not", x.streak(0, 2), 622 * 389);
        says("LINE-UPS");
        begin(WITH_FREE);
        x.move(0, 5);
        due("the FREE aside", x.streak(0, 1), 468000);
    }

    private void streakAtMost() {
        says("0 up; as many as it needs for the set at most; 0 alone, if it is OVER");
        begin(BY_SERVE);
        due("below", x.streak(0, -1), NONE);
        due("four", x.streak(0, 4), NONE);
        due("four", x.streak(1, 4), NONE);
        play("01");
        due("ours need two, n serves", x.streak(0, 2), 480 * 540);
        due("not three", x.streak(0, 3), NONE);
        play("1");
        due("theirs need one", x.streak(1, 1), 520000);
        due("not two", x.streak(1, 2), NONE);
        due("ours need two", x.streak(0, 2), 480 * 540);
        play("1");
        dueEach("over", new int[] {x.streak(0, 0), x.streak(1, 0), x.streak(0, 1), x.streak(1, 1), x.streak(0, 2)},
                1000000, 1000000, NONE, NONE, NONE);
        due("side 2", x.streak(2, 0), NONE);
        due("side -1", x.streak(-1, 0), NONE);
        due("far beyond", x.streak(0, Integer.MAX_VALUE), NONE);
    }

    private void streakDownwards() {
        says("by 1000, downwards");
        begin("points 25;edge 167;" + BLANK);
        // 333: 333000, 110889, 36926, 12296, 4094, 1363, 453 (454 if only the last one were cut)
        dueEach("streak", new int[] {x.streak(0, 3), x.streak(0, 4), x.streak(0, 5), x.streak(0, 6), x.streak(0, 7)},
                36926, 12296, 4094, 1363, 453);
    }

    private static final String ALTERNATE = "points 3;"
            + squad("ours", "abcdef", "0 0 0", "9 50 0", "0 0 0", "9 50 0", "0 0 0", "9 50 0")
            + squad("theirs", "mnopqr", "8 0 0", "0 30 0", "0 0 0", "8 40 0", "0 0 0", "8 0 0") + STARTS;

    private void weak() {
        says("WEAK: the TURNS 0 .. 5 of its LINE-UP from now by which, the other LINE-UP as now and serving, CHANCE is greatest");
        begin(ALTERNATE);
        // NET of ours 100 by 0, 2, 4 TURNS, 50 by 1, 3, 5; of theirs 70 at first, m serves
        dueEach("ours, the least of several", new int[] {x.weak(0, 0), x.weak(0, 1)}, 1, 400 + 8 + 70 - 50);
        // NET of theirs by TURNS 70, 40, 40, 0, 30, 30; a serves
        dueEach("theirs", new int[] {x.weak(1, 0), x.weak(1, 1)}, 3, 400 + 100);
        play("10");
        dueEach("ours from now", new int[] {x.weak(0, 0), x.weak(0, 1)}, 0, 400 + 40 - 50);
        dueEach("theirs from now", new int[] {x.weak(1, 0), x.weak(1, 1)}, 2, 400 + 9 + 50);
        says("weak NONE: no such ones");
        dueEach("weak", new int[] {x.weak(2, 0), x.weak(-1, 0), x.weak(0, 2), x.weak(0, -1)}, NONE, NONE, NONE, NONE);
        play("00");
        due("OVER, too", x.weak(0, 0), 0);
    }

    private void strong() {
        says("The TURNS 0 .. 5 of a SIDE's LINE-UP from now by which, it serving, the other LINE-UP as now, CHANCE is greatest");
        begin(ALTERNATE);
        // ours 100, 59, 100, 59, ..; theirs with SERVE 78, 40, 40, 8, 30, 38
        dueEach("ours, the least of several", new int[] {x.strong(0, 0), x.strong(0, 1)}, 0, 400 + 100 - 70);
        dueEach("theirs", new int[] {x.strong(1, 0), x.strong(1, 1)}, 0, 400 + 78 - 100);
        play("10");
        dueEach("ours from now", new int[] {x.strong(0, 0), x.strong(0, 1)}, 1, 400 + 100 - 40);
        dueEach("theirs from now", new int[] {x.strong(1, 0), x.strong(1, 1)}, 5, 400 + 78 - 50);
        says("strong NONE: no such ones");
        dueEach("strong", new int[] {x.strong(2, 0), x.strong(-1, 0), x.strong(0, 2), x.strong(1, -1)}, NONE, NONE, NONE, NONE);
        play("00");
        due("OVER, too", x.strong(0, 0), 1);
    }

    // ---- SWAP

    private void ifSwapped() {
        says("TABLE at 0, 0 with a SWAP");
        begin("points 3;" + squad("ours", "abcdef", GOOD_ORDER) + squad("theirs", "mnopqr", BAD_ORDER) + STARTS);
        due("as it is", x.table(0, 0), 793592);
        dueEach("ours", new int[] {x.ifSwapped(0, 1, 5), x.ifSwapped(0, 3, 4), x.ifSwapped(0, 4, 3), x.ifSwapped(0, 5, 6),
            x.ifSwapped(0, 1, 6)}, 793592, 791899, 791899, 788683, 748361);
        dueEach("theirs", new int[] {x.ifSwapped(1, 1, 2), x.ifSwapped(1, 6, 5), x.ifSwapped(1, 1, 4)}, 754351, 800220, 643953);
        begin("points 3;" + squad("ours", "fedcba", "0 30 90", "90 0 50", "30 50 0", "90 90 0", "30 50 0", "90 0 50")
                + squad("theirs", "nmporq", "50 0 30", "0 90 0", "0 0 0", "50 50 0", "50 0 50", "90 50 90") + STARTS);
        dueEach("told in another order", new int[] {x.table(0, 0), x.ifSwapped(0, 3, 4), x.ifSwapped(1, 1, 4)},
                793592, 791899, 643953);
        play("01");
        due("of the start", x.ifSwapped(0, 3, 4), 791899);
        due("nothing is changed", x.table(0, 0), 793592);
        says("ifSwapped NONE: no such ones, one and the same");
        dueEach("ifSwapped", new int[] {x.ifSwapped(0, 1, 1), x.ifSwapped(0, 0, 1), x.ifSwapped(0, 1, 7), x.ifSwapped(0, 7, 1),
            x.ifSwapped(0, 1, 0), x.ifSwapped(2, 1, 2), x.ifSwapped(-1, 1, 2)}, NONE, NONE, NONE, NONE, NONE, NONE, NONE);
    }

    private int[] bestSwap(int side) {
        return new int[] {x.bestSwap(side, 0), x.bestSwap(side, 1), x.bestSwap(side, 2)};
    }

    private void bestSwap() {
        says("The SWAP by which TABLE at 0, 0 would be best for a SIDE (the greatest of SIDE 0, the least of 1)");
        begin("points 3;" + squad("ours", "abcdef", GOOD_ORDER) + squad("theirs", "mnopqr", BAD_ORDER) + STARTS);
        dueEach("theirs", bestSwap(1), 1, 4, 643953);
        dueEach("ours", bestSwap(0), 1, 5, 793592);
        play("000");
        dueEach("of the start, OVER, too", bestSwap(1), 1, 4, 643953);
        begin(LAST_SPOT);
        dueEach("ours, with the last SPOT", bestSwap(0), 2, 6, 424579);
        dueEach("theirs, with the last SPOT", bestSwap(1), 5, 6, 283203);
        says("bestSwap NONE: no such ones");
        dueEach("bestSwap", new int[] {x.bestSwap(2, 0), x.bestSwap(-1, 0), x.bestSwap(0, 3), x.bestSwap(1, -1)},
                NONE, NONE, NONE, NONE);
    }

    private void bestSwapOfSeveral() {
        says("of several the first by the lesser SPOT, then by the other");
        // Who is on 1 and 5 are alike, and who is on 2 and 4; any other SWAP is worse than none.
        begin("points 3;" + squad("ours", "abcdef", GOOD_ORDER) + squad("theirs", "mnopqr", BAD_ORDER) + STARTS);
        dueEach("ours", bestSwap(0), 1, 5, 793592);
        due("2 and 4, too", x.ifSwapped(0, 2, 4), 793592);
        begin("points 3;first theirs;" + squad("ours", "abcdef", BAD_ORDER) + squad("theirs", "mnopqr", GOOD_ORDER) + STARTS);
        dueEach("theirs", bestSwap(1), 1, 5, 206408);
        due("2 and 4, too", x.ifSwapped(1, 2, 4), 206408);
        begin("points 3;edge 0;" + BLANK);
        dueEach("all alike", bestSwap(0), 1, 2, 500000);
        dueEach("all alike", bestSwap(1), 1, 2, 500000);
    }
    /** Three texts one behind another on one object: nothing of one may be told of the next. */
    private void allAnew() {
        says("are the TEXT (all anew, 0 to 0, nothing to undo)");
        begin(WITH_FREE);
        due("a FREE", askPlayer(0, 6, 3), 1);
        due("bestMove", x.bestMove(0, 0), 5);
        due("LOPSIDED", Tape.tell(x, LOPSIDED), 17);
        due("table", x.table(2, 3), 933382);
        dueEach("safe", new int[] {x.safe(0, 0), x.safe(1, 0)}, 1, 5);
        dueEach("bestSub", new int[] {x.bestSub(0, 0), x.bestSub(1, 0)}, -2, -2);
        due("bestSwap of ours", x.bestSwap(0, 2) >= 0, true);
        due("bestSwap of theirs", x.bestSwap(1, 2) >= 0, true);
        due("BY_SERVE", Tape.tell(x, BY_SERVE), 20);
        due("no FREE", askPlayer(0, 6, 3), 0);
        due("no FREE", x.move(0, 5), -3);
        due("edge 0", x.chance(), 530);
        dueEach("bestSub", new int[] {x.bestSub(0, 0) >= 0 ? 1 : 0, x.bestSub(1, 0) >= 0 ? 1 : 0}, 1, 1);
        due("LAST_SPOT", Tape.tell(x, LAST_SPOT), 15);
        dueEach("bestSwap of ours", bestSwap(0), 2, 6, 424579);
        dueEach("bestSwap of theirs", bestSwap(1), 5, 6, 283203);
        dueEach("bestSub", new int[] {x.bestSub(0, 0), x.bestSub(1, 0)}, -2, -2);
        due("TWICE_THREE", Tape.tell(x, TWICE_THREE), 15);
        due("table", x.table(1, 2), 789667);
        dueEach("safe", new int[] {x.safe(0, 0), x.safe(1, 0)}, 1, 2);
    }
}
