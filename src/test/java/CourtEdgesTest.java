/** Who is where, POINTS, SUBS, MOVES, STANDING, what is undone: a test for each sentence with an edge. */
public final class CourtEdgesTest extends Sheet {
    public static void main(String[] args) {
        CourtEdgesTest test = new CourtEdgesTest();
        test.sixTurns();
        test.servesOn();
        test.servesNow();
        test.over();
        test.pointRefused();
        test.freeComesToSpotFour();
        test.freeAtSpotFourIsNoSub();
        test.freeAtSpotFourIsAMove();
        test.freeTurnsWithTheOthers();
        test.subToHisSpot();
        test.subsSoMany();
        test.subWhoGoes();
        test.subWhoComes();
        test.starterGoes();
        test.starterComesBackOnce();
        test.mateGoesForHisStarter();
        test.subAndWhoIsOut();
        test.subRefusalsInOrder();
        test.moveToRearSpots();
        test.moveAndWhoServes();
        test.moveBackToWhereHeIs();
        test.pointBetweenMoves();
        test.moveRefusalsInOrder();
        test.standingAtFirst();
        test.standingHasBounds();
        test.standingIsOfSpots();
        test.wrongByDepth();
        test.wrongBySide();
        test.wrongInOrder();
        test.whoServesIsOfNoCouple();
        test.wrongRefused();
        test.undoLatestFirst();
        test.undoTwentyAtMost();
        test.undoRefusedOnes();
        test.undoOverAndBack();
        test.askingChangesNothing();
        test.playerBounds();
        test.playerSpots();
        test.playerRoles();
        test.playerPoints();
        test.onBounds();
        test.now();
        test.strength();
        test.together();
        test.maySub();
        test.mayMove();
        test.subsNow();
        test.ranked();
        test.runNow();
        test.runLongest();
        test.runByNames();
        test.was();
        test.till();
        test.fiveHundredAndTwelveCalls();
        test.check.end();
    }

    private static final int FREE = 8;

    private static String blank(int points, int subs) {
        return "points " + points + ";subs " + subs + ";" + BLANK;
    }

    // ---- ==== 2: a POINT

    private void sixTurns() {
        says("who is on 2 comes to 1, 1 to 6, 6 to 5, 5 to 4, 4 to 3, 3 to 2");
        begin(blank(25, 6));
        int[][] due = {{1, 2, 3, 4, 5, 0}, {2, 3, 4, 5, 0, 1}, {3, 4, 5, 0, 1, 2}, {4, 5, 0, 1, 2, 3},
            {5, 0, 1, 2, 3, 4}, {0, 1, 2, 3, 4, 5}, {1, 2, 3, 4, 5, 0}};
        for (int turns = 1; turns <= 7; turns++) {
            play("10");
            dueEach("ours turned " + turns, onCourt(0), due[turns - 1]);
            dueEach("theirs turned " + turns, onCourt(1), due[turns - 1]);
            due("how often ours turned", x.now(6), turns % 6);
            due("how often theirs turned", x.now(7), turns % 6);
        }
    }

    private void servesOn() {
        says("If it served it serves on");
        begin(blank(5, 6));
        due("point(0)", x.point(0), 0);
        due("one more", x.now(0), 1);
        due("the other one has none", x.now(1), 0);
        dueEach("nobody turns", onCourt(0), 0, 1, 2, 3, 4, 5);
        due("turned", x.now(6), 0);
        begin(blank(5, 6) + "first theirs;");
        due("point(1)", x.point(1), 1);
        dueEach("nobody turns", onCourt(1), 0, 1, 2, 3, 4, 5);
    }

    private void servesNow() {
        says("else it serves now, and TURNS");
        begin(blank(5, 6));
        due("point(1)", x.point(1), 1);
        due("serves", x.now(2), 1);
        dueEach("theirs turn", onCourt(1), 1, 2, 3, 4, 5, 0);
        dueEach("ours do not", onCourt(0), 0, 1, 2, 3, 4, 5);
        due("point(0)", x.point(0), 0);
        dueEach("ours turn", onCourt(0), 1, 2, 3, 4, 5, 0);
        dueEach("theirs do not", onCourt(1), 1, 2, 3, 4, 5, 0);
    }

    private void over() {
        says("The set is OVER as a SIDE has as many as points");
        begin(blank(3, 6));
        play("0011");
        due("2 to 2", x.now(3), 0);
        play("1");
        due("2 to 3", x.now(3), 1);
        due("no more", x.point(0), -2);
        begin(blank(3, 6));
        play("00");
        due("2 to 0", x.now(3), 0);
        play("0");
        due("3 to 0", x.now(3), 1);
        begin(BLANK);
        for (int k = 0; k < 24; k++) {
            play("10");
        }
        due("24 to 24", x.now(3), 0);
        play("1");
        due("24 to 25, one more is enough", x.now(3), 1);
        due("points in all", x.now(8), 49);
        // Theirs had the first and the last, each SIDE turned 24 times ahead of the last one: 0 serves it.
        dueEach("the last of 49", new int[] {x.was(48, 0), x.was(48, 1), x.was(48, 2)}, 1, 0, 0);
        dueEach("the last but one", new int[] {x.was(47, 0), x.was(47, 1), x.was(47, 2)}, 0, 1, 0);
        due("no more", x.was(49, 0), -2);
        due("nobody had a point as he served", x.run(2), 0);
        begin(BLANK);
        for (int k = 0; k < 24; k++) {
            play("10");
        }
        play("0");
        dueEach("25 to 24, the last is a run", new int[] {x.run(0), x.run(2), x.run(3), x.run(4)}, 1, 1, 0, 0);
        due("points as he served", askPlayer(0, 0, 7), 1);
    }

    private void pointRefused() {
        says("-2: the set is OVER; NONE: no such SIDE");
        begin(blank(3, 6));
        due("side 2", x.point(2), NONE);
        due("side -1", x.point(-1), NONE);
        due("none came", x.now(8), 0);
        play("111");
        due("ours", x.point(0), -2);
        due("theirs", x.point(1), -2);
        due("NONE goes first", x.point(2), NONE);
        due("none came", x.now(8), 3);
        due("who serves stays", x.now(2), 1);
    }

    private void freeComesToSpotFour() {
        says("If its FREE comes to SPOT 4 by that, the one for whom he stands comes there in his place");
        begin(blank(9, 6) + "first theirs;");
        due("he comes for 4", x.move(0, 5), 4);
        due("they serve on", x.point(1), 1);
        due("he is there", x.on(0, 5), FREE);
        due("ours serve, and turn", x.point(0), 0);
        dueEach("without him", onCourt(0), 1, 2, 3, 4, 5, 0);
        due("he is nowhere", askPlayer(0, FREE, 4), 0);
        due("who stood aside is on 4", askPlayer(0, 4, 4), 4);
        begin(blank(9, 6));
        due("of theirs, too", x.move(1, 5), 4);
        due("theirs serve, and turn", x.point(1), 1);
        dueEach("without him", onCourt(1), 1, 2, 3, 4, 5, 0);
    }

    private void freeAtSpotFourIsNoSub() {
        says("this isn't a SUB");
        begin(blank(9, 1) + "first theirs;");
        x.move(0, 5);
        x.point(0);
        due("subs left", x.now(4), 1);
        due("no mate of his", askPlayer(0, 4, 6), -2);
        due("the free is no mate", askPlayer(0, FREE, 5), 2);
        due("he may go yet", x.sub(0, 4, 6), 0);
        begin(blank(9, 0) + "first theirs;");
        x.move(0, 5);
        x.point(0);
        due("without any SUB, too", x.on(0, 4), 4);
    }

    private void freeAtSpotFourIsAMove() {
        says("it counts as a MOVE of the FREE");
        begin(blank(9, 6) + "first theirs;");
        x.move(0, 5);
        x.move(1, 5);
        x.point(0);
        due("no point since", x.move(0, 6), -4);
        due("he isn't there", x.move(0, 0), -3);
        due("of theirs there was a point", x.move(1, 0), 4);
        x.point(0);
        due("now", x.move(0, 6), 0);
    }

    private void freeTurnsWithTheOthers() {
        says("who is on 1 comes to 6, 6 to 5");
        begin(blank(9, 6) + "first theirs;");
        due("he comes for 0", x.move(0, 1), 0);
        x.point(0);
        dueEach("on 6", onCourt(0), 1, 2, 3, 4, 5, FREE);
        dueEach("for the same one", lineUp(0), 1, 2, 3, 4, 5, 0);
        play("10");
        dueEach("on 5", onCourt(0), 2, 3, 4, 5, FREE, 1);
        dueEach("for the same one", lineUp(0), 2, 3, 4, 5, 0, 1);
        play("10");
        dueEach("away", onCourt(0), 3, 4, 5, 0, 1, 2);
    }

    // ---- ==== 2: a SUB

    private void subToHisSpot() {
        says("another one of the SIDE comes to his SPOT");
        begin(blank(9, 6));
        due("on 3", x.sub(0, 2, 6), 5);
        dueEach("ours", onCourt(0), 0, 1, 6, 3, 4, 5);
        dueEach("of the line-up, too", lineUp(0), 0, 1, 6, 3, 4, 5);
        dueEach("theirs", onCourt(1), 0, 1, 2, 3, 4, 5);
        play("10");
        due("where he came by turning", x.sub(0, 6, 2), 4);
        dueEach("ours", onCourt(0), 1, 2, 3, 4, 5, 0);
    }

    private void subsSoMany() {
        says("a SIDE has so many as subs say");
        begin(blank(9, 2));
        due("one left", x.sub(0, 0, 6), 1);
        due("none left", x.sub(0, 1, 7), 0);
        due("no more", x.sub(0, 6, 0), -3);
        due("theirs have their own", x.now(5), 2);
        due("theirs", x.sub(1, 0, 6), 1);
        begin(blank(9, 0));
        due("none at all", x.sub(0, 0, 6), -3);
        begin(blank(9, 1));
        due("the only one", x.sub(1, 5, 7), 0);
        due("no more", x.sub(1, 0, 6), -3);
    }

    private void subWhoGoes() {
        says("-4: who goes isn't on the court, or FREE");
        begin(blank(9, 6));
        due("never there", x.sub(0, 6, 7), -4);
        due("the free, out", x.sub(0, FREE, 6), -4);
        x.sub(0, 0, 6);
        due("went", x.sub(0, 0, 7), -4);
        x.move(0, 5);
        due("the free, there", x.sub(0, FREE, 7), -4);
        due("the one for whom he stands", x.sub(0, 4, 7), -4);
        due("left", x.now(4), 5);
    }

    private void subWhoComes() {
        says("-5: who comes is on the court, or FREE, or the FREE stands for him");
        begin(blank(9, 6));
        due("there", x.sub(0, 0, 1), -5);
        due("oneself", x.sub(0, 0, 0), -5);
        due("the free, out", x.sub(0, 0, FREE), -5);
        x.move(0, 6);
        due("the free, there", x.sub(0, 0, FREE), -5);
        due("the one for whom he stands", x.sub(0, 0, 5), -5);
        x.sub(0, 1, 6);
        due("a mate on the court", x.sub(0, 0, 6), -5);
        due("left", x.now(4), 5);
    }

    private void starterGoes() {
        says("a STARTER may go for one who has never been on the court: his MATE from then on");
        begin(blank(9, 12));
        due("it can be", x.sub(0, 0, 6), 11);
        due("a starter", askPlayer(0, 0, 5), 0);
        due("his mate", askPlayer(0, 0, 6), 6);
        due("a mate", askPlayer(0, 6, 5), 1);
        due("his starter", askPlayer(0, 6, 6), 0);
        due("for a starter who went", x.sub(0, 1, 0), -6);
        x.sub(0, 6, 0);
        due("for another one's mate", x.sub(0, 1, 6), -6);
        due("for one who never came", x.sub(0, 1, 7), 9);
    }

    private void starterComesBackOnce() {
        says("He may come back once, for his MATE alone; nor does a STARTER go twice");
        begin(blank(9, 12));
        x.sub(0, 0, 6);
        x.sub(0, 1, 7);
        due("for another mate", x.sub(0, 7, 0), -6);
        due("for another starter", x.sub(0, 2, 0), -6);
        due("for his mate", x.sub(0, 6, 0), 9);
        dueEach("on his spot", onCourt(0), 0, 7, 2, 3, 4, 5);
        due("he goes for his mate again", x.sub(0, 0, 6), -6);
        begin(blank(9, 12));
        x.sub(0, 0, 6);
        x.sub(0, 6, 0);
        due("he goes for a new one", x.sub(0, 0, 7), -6);
        due("his mate stays his", askPlayer(0, 0, 6), 6);
    }

    private void mateGoesForHisStarter() {
        says("A MATE goes for his STARTER alone, and never comes again");
        begin(blank(9, 12));
        x.sub(0, 0, 6);
        due("for one who never came", x.sub(0, 6, 7), -6);
        x.sub(0, 1, 7);
        due("for another starter", x.sub(0, 6, 1), -6);
        due("for his starter", x.sub(0, 6, 0), 9);
        due("never for another one", x.sub(0, 2, 6), -6);
        due("never for his starter", x.sub(0, 0, 6), -6);
        due("still a mate", askPlayer(0, 6, 5), 1);
    }

    private void subAndWhoIsOut() {
        says("Who is out because the FREE stands for him is on the court for none of this");
        begin(blank(9, 12));
        x.move(0, 6);
        due("he can't go", x.sub(0, 5, 6), -4);
        due("he can't come", x.sub(0, 4, 5), -5);
        play("1");
        x.move(0, 0);
        due("he has not gone yet", x.sub(0, 5, 6), 11);
        play("1");
        due("the free for a mate", x.move(0, 6), 6);
        due("the mate can't go", x.sub(0, 6, 5), -4);
        due("the mate can't come", x.sub(0, 4, 6), -5);
        due("his starter can't come", x.sub(0, 4, 5), -6);
        play("1");
        x.move(0, 0);
        due("the mate goes", x.sub(0, 6, 5), 10);
    }

    private void subRefusalsInOrder() {
        says("Of several answers that hold NONE goes first, then -2, -3, and so on");
        begin(blank(3, 1));
        due("side 2", x.sub(2, 0, 6), NONE);
        due("side -1", x.sub(-1, 0, 6), NONE);
        due("who goes below", x.sub(0, -1, 6), NONE);
        due("who goes beyond", x.sub(0, 9, 6), NONE);
        due("who comes below", x.sub(0, 0, -1), NONE);
        due("who comes beyond", x.sub(0, 0, 9), NONE);
        due("NONE ahead of -4", x.sub(0, 6, 9), NONE);
        due("NONE ahead of -5", x.sub(0, 9, 1), NONE);
        due("-4 ahead of -5", x.sub(0, 6, 1), -4);
        due("-4 ahead of -5, oneself", x.sub(0, 6, 6), -4);
        x.sub(0, 0, 6);
        due("-3 ahead of -4", x.sub(0, 0, 7), -3);
        due("-3 ahead of -5", x.sub(0, 6, 1), -3);
        due("-3 ahead of -6", x.sub(0, 6, 7), -3);
        due("NONE ahead of -3", x.sub(0, 9, 7), NONE);
        play("000");
        due("-2 ahead of -3", x.sub(0, 6, 0), -2);
        due("-2 ahead of -4", x.sub(1, 6, 7), -2);
        due("NONE ahead of -2", x.sub(0, 0, 9), NONE);
        begin(blank(9, 12));
        x.sub(0, 0, 6);
        due("-5 ahead of -6", x.sub(0, 6, 1), -5);
        due("-4 ahead of -6", x.sub(0, 0, 6), -4);
    }

    // ---- ==== 2: a MOVE

    private void moveToRearSpots() {
        says("he comes for one on a REAR SPOT; NONE: no such SIDE, no REAR SPOT");
        int[] spots = {1, 5, 6};
        for (int spot : spots) {
            begin(blank(9, 6) + "first theirs;");
            due("the one for whom he stands", x.move(0, spot), spot - 1);
            due("he is there", x.on(0, spot), FREE);
            due("the line-up", x.lineUp(0, spot), spot - 1);
        }
        begin(blank(9, 6) + "first theirs;");
        dueEach("no rear spot", new int[] {x.move(0, 2), x.move(0, 3), x.move(0, 4), x.move(0, 7), x.move(0, -1)},
                NONE, NONE, NONE, NONE, NONE);
        due("side 2", x.move(2, 5), NONE);
        due("side -1", x.move(-1, 0), NONE);
        dueEach("nobody moved", onCourt(0), 0, 1, 2, 3, 4, 5);
    }

    private void moveAndWhoServes() {
        says("-5: SPOT 1, and the SIDE serves");
        begin(blank(9, 6));
        due("ours serve", x.move(0, 1), -5);
        due("theirs do not", x.move(1, 1), 0);
        play("1");
        due("theirs serve, ours may", x.move(0, 1), 0);
        play("0");
        due("he is on 6 as ours serve", x.on(0, 6), FREE);
    }

    private void moveBackToWhereHeIs() {
        says("he goes, and the one for whom he stands comes back to the SPOT where he is");
        begin(blank(9, 6) + "first theirs;");
        x.move(0, 6);
        play("0");
        due("on 5 by now", x.on(0, 5), FREE);
        due("the one for whom he stood", x.move(0, 0), 5);
        dueEach("back on 5", onCourt(0), 1, 2, 3, 4, 5, 0);
        says("-3: the SIDE has none, he is on the court already (spot 0: he isn't)");
        due("he isn't there", x.move(0, 0), -3);
        play("0");
        x.move(0, 6);
        due("he is there", x.move(0, 5), -3);
        play("0");
        due("he is there", x.move(0, 6), -3);
        begin("points 5;" + BLANK.replace("free u;", ""));
        due("none at all", x.move(1, 5), -3);
        due("none at all", x.move(1, 0), -3);
    }

    private void pointBetweenMoves() {
        says("Between two MOVES of a SIDE there must be a POINT");
        begin(blank(9, 6));
        due("the first", x.move(0, 5), 4);
        due("of the other side", x.move(1, 5), 4);
        due("none between", x.move(0, 0), -4);
        x.sub(0, 0, 6);
        x.stand(0, 1, 0, 0);
        due("a sub is none", x.move(0, 0), -4);
        play("0");
        due("a point of ours, ours", x.move(0, 0), 4);
        due("a point of ours, theirs", x.move(1, 0), 4);
        due("none between", x.move(0, 5), -4);
        due("none between", x.move(1, 5), -4);
        play("1");
        due("a point of theirs", x.move(0, 5), 4);
        x.undo();
        due("the first again", x.move(0, 6), 5);
        x.undo();
        x.undo();
        due("the point is undone", x.move(0, 6), -4);
    }

    private void moveRefusalsInOrder() {
        says("Of several answers that hold NONE goes first, then -2, -3, and so on");
        begin("points 3;" + BLANK.replace("free u;", "") + "first theirs;");
        due("-3 ahead of -5", x.move(1, 1), -3);
        x.move(0, 1);
        due("-3 ahead of -4", x.move(0, 5), -3);
        due("NONE ahead of -3", x.move(0, 2), NONE);
        play("0");
        x.move(0, 0);
        due("-4 ahead of -5", x.move(0, 1), -4);
        play("00");
        due("-2 ahead of -3", x.move(1, 5), -2);
        due("-2 ahead of -3", x.move(0, 0), -2);
        due("-2 ahead of -5", x.move(0, 1), -2);
        due("NONE ahead of -2", x.move(0, 3), NONE);
        due("NONE ahead of -2", x.move(2, 0), NONE);
    }

    // ---- ==== 2: STANDING

    private void standingAtFirst() {
        says("at first SPOT 4 20 20, 3 45 20, 2 70 20, 5 20 70, 6 45 70, 1 70 70");
        begin(BLANK);
        int[][] due = {{4, 20, 20}, {3, 45, 20}, {2, 70, 20}, {5, 20, 70}, {6, 45, 70}, {1, 70, 70}};
        for (int[] row : due) {
            for (int side = 0; side < 2; side++) {
                due("x of " + row[0], x.standing(side, row[0], 0), row[1]);
                due("y of " + row[0], x.standing(side, row[0], 1), row[2]);
            }
        }
        says("standing NONE: no such ones");
        dueEach("standing", new int[] {x.standing(0, 0, 0), x.standing(0, 7, 0), x.standing(2, 1, 0), x.standing(-1, 1, 0),
            x.standing(0, 1, 2), x.standing(0, 1, -1)}, NONE, NONE, NONE, NONE, NONE, NONE);
    }

    private void standingHasBounds() {
        says("each SPOT of a SIDE has x 0 .. 90 and y 0 .. 90; false: no such ones");
        begin(BLANK);
        due("least", x.stand(0, 1, 0, 0), true);
        due("most", x.stand(1, 6, 90, 90), true);
        due("x", x.standing(0, 1, 0), 0);
        due("y", x.standing(0, 1, 1), 0);
        due("x", x.standing(1, 6, 0), 90);
        due("y", x.standing(1, 6, 1), 90);
        due("x below", x.stand(0, 1, -1, 5), false);
        due("x beyond", x.stand(0, 1, 91, 5), false);
        due("y below", x.stand(0, 1, 5, -1), false);
        due("y beyond", x.stand(0, 1, 5, 91), false);
        due("spot below", x.stand(0, 0, 5, 5), false);
        due("spot beyond", x.stand(0, 7, 5, 5), false);
        due("side below", x.stand(-1, 1, 5, 5), false);
        due("side beyond", x.stand(2, 1, 5, 5), false);
        due("all as it was", x.standing(0, 1, 0), 0);
        due("what can be undone", x.count(6), 2);
    }

    private void standingIsOfSpots() {
        says("they are of SPOTS, who is on them or not");
        begin(blank(3, 6));
        x.stand(0, 1, 11, 12);
        x.stand(0, 6, 61, 62);
        x.sub(0, 0, 6);
        x.move(0, 6);
        play("10");
        due("x of 1", x.standing(0, 1, 0), 11);
        due("y of 1", x.standing(0, 1, 1), 12);
        due("x of 6", x.standing(0, 6, 0), 61);
        due("y of 6", x.standing(0, 6, 1), 62);
        play("00");
        due("OVER, too", x.stand(0, 2, 1, 2), true);
        due("x of 2", x.standing(0, 2, 0), 1);
    }

    /** One SPOT of a couple is set so that x or y is less by one, alike, more by one. */
    private void coupleDue(int couple, int spot, int[] at, int wrongX, int wrongY) {
        begin(BLANK + "first theirs;");
        x.stand(0, spot, at[0], at[1]);
        due("couple " + couple + " is well", x.wrong(0, 0), -2);
        x.stand(0, spot, wrongX, wrongY);
        due("couple " + couple + " is wrong, alike", x.wrong(0, 0), couple);
        due("and no other", x.wrong(0, 1), -2);
    }

    private void wrongByDepth() {
        says("4 and 5, 3 and 6, 2 and 1 (the first one isn't nearer to the net: y not less)");
        coupleDue(0, 4, new int[] {20, 69}, 20, 70);
        coupleDue(0, 5, new int[] {20, 21}, 20, 20);
        coupleDue(1, 3, new int[] {45, 69}, 45, 70);
        coupleDue(1, 6, new int[] {45, 21}, 45, 20);
        coupleDue(2, 2, new int[] {70, 69}, 70, 70);
        coupleDue(2, 1, new int[] {70, 21}, 70, 20);
        coupleDue(0, 4, new int[] {20, 0}, 20, 90);
    }

    private void wrongBySide() {
        says("4 and 3, 3 and 2, 5 and 6, 6 and 1 (the first one isn't more to the left: x not less)");
        coupleDue(3, 4, new int[] {44, 20}, 45, 20);
        coupleDue(3, 3, new int[] {21, 20}, 20, 20);
        coupleDue(4, 3, new int[] {69, 20}, 70, 20);
        coupleDue(4, 2, new int[] {46, 20}, 45, 20);
        coupleDue(5, 5, new int[] {44, 70}, 45, 70);
        coupleDue(5, 6, new int[] {21, 70}, 20, 70);
        coupleDue(6, 6, new int[] {69, 70}, 70, 70);
        coupleDue(6, 1, new int[] {46, 70}, 45, 70);
        coupleDue(6, 1, new int[] {90, 70}, 0, 70);
    }

    private void standAllAt(int side, int place) {
        for (int spot = 1; spot <= 6; spot++) {
            x.stand(side, spot, place, place);
        }
    }

    private int[] wrongOnes(int side) {
        int[] couples = new int[8];
        for (int k = 0; k < 8; k++) {
            couples[k] = x.wrong(side, k);
        }
        return couples;
    }

    private void wrongInOrder() {
        says("The k-th couple (0 .. 6, in their order) of a SIDE that is WRONG (k from 0 on)");
        begin(BLANK);
        standAllAt(1, 40);
        dueEach("all", wrongOnes(1), 0, 1, 2, 3, 4, 5, 6, -2);
        x.stand(1, 3, 40, 0);
        dueEach("without 3 and 6", wrongOnes(1), 0, 2, 3, 4, 5, 6, -2, -2);
        x.stand(1, 6, 50, 40);
        dueEach("without 5 and 6", wrongOnes(1), 0, 2, 3, 4, 6, -2, -2, -2);
        due("of ours none", x.wrong(0, 0), -2);
    }

    private void whoServesIsOfNoCouple() {
        says("Who serves is of no couple");
        begin(BLANK);
        standAllAt(0, 40);
        standAllAt(1, 40);
        dueEach("ours serve", wrongOnes(0), 0, 1, 3, 4, 5, -2, -2, -2);
        dueEach("theirs do not", wrongOnes(1), 0, 1, 2, 3, 4, 5, 6, -2);
        play("1");
        dueEach("theirs serve", wrongOnes(1), 0, 1, 3, 4, 5, -2, -2, -2);
        dueEach("ours do not", wrongOnes(0), 0, 1, 2, 3, 4, 5, 6, -2);
    }

    private void wrongRefused() {
        says("-2: there are not so many; NONE: no such ones");
        begin(BLANK);
        due("none", x.wrong(0, 0), -2);
        due("far beyond", x.wrong(0, Integer.MAX_VALUE), -2);
        due("k below", x.wrong(0, -1), NONE);
        due("k far below", x.wrong(0, Integer.MIN_VALUE), NONE);
        due("side 2", x.wrong(2, 0), NONE);
        due("NONE goes first", x.wrong(2, 9), NONE);
        due("side -1", x.wrong(-1, 0), NONE);
    }

    // ---- ==== 4: undone

    private void undoLatestFirst() {
        says("POINTS, SUBS, MOVES, STANDING told can be undone, the latest first");
        begin(blank(9, 6));
        play("1");
        x.sub(0, 2, 6);
        x.move(0, 5);
        x.stand(1, 3, 1, 2);
        play("0");
        due("what can be", x.count(6), 5);
        due("the point", x.undo(), 4);
        dueEach("now", new int[] {x.now(0), x.now(1), x.now(2), x.now(6), x.now(8)}, 0, 1, 1, 0, 1);
        dueEach("the free is there again", onCourt(0), 0, 1, 6, 3, FREE, 5);
        due("no point since the move", x.mayMove(0, 0), -4);
        due("no such point", x.was(1, 0), -2);
        due("the standing", x.undo(), 3);
        due("x", x.standing(1, 3, 0), 45);
        due("y", x.standing(1, 3, 1), 20);
        due("the move", x.undo(), 2);
        dueEach("without the free", onCourt(0), 0, 1, 6, 3, 4, 5);
        due("he may move", x.mayMove(0, 5), 0);
        due("the sub", x.undo(), 1);
        dueEach("without the mate", onCourt(0), 0, 1, 2, 3, 4, 5);
        due("subs", x.now(4), 6);
        due("no mate", askPlayer(0, 6, 5), 2);
        due("the other point", x.undo(), 0);
        dueEach("now", new int[] {x.now(0), x.now(1), x.now(2), x.now(7), x.now(8)}, 0, 0, 0, 0, 0);
        dueEach("theirs", onCourt(1), 0, 1, 2, 3, 4, 5);
        says("NONE: there is none");
        due("no more", x.undo(), NONE);
        due("no more", x.undo(), NONE);
        due("what can be", x.count(6), 0);
    }

    private void undoTwentyAtMost() {
        says("20 at most (the eldest are forgotten)");
        begin(BLANK);
        for (int k = 1; k <= 20; k++) {
            x.stand(0, 1, k, k);
            due("what can be", x.count(6), k);
        }
        due("the 20th", x.undo(), 19);
        x.stand(0, 1, 20, 20);
        for (int k = 21; k <= 47; k++) {
            x.stand(0, 1, k, k);
            due("what can be", x.count(6), 20);
        }
        for (int k = 46; k >= 27; k--) {
            due("how many more", x.undo(), k - 27);
            due("as it was", x.standing(0, 1, 0), k);
        }
        due("the 27 eldest are forgotten", x.undo(), NONE);
        due("as it was", x.standing(0, 1, 0), 27);
        x.stand(0, 1, 5, 5);
        due("one anew", x.undo(), 0);
        due("as it was", x.standing(0, 1, 0), 27);
        begin(BLANK);
        for (int k = 0; k < 21; k++) {
            play("0");
        }
        for (int k = 0; k < 20; k++) {
            x.undo();
        }
        due("the first point stays", x.now(0), 1);
        due("no more", x.undo(), NONE);
    }

    private void undoRefusedOnes() {
        says("What is refused is not told: nothing to undo");
        begin(blank(3, 1));
        x.point(2);
        x.sub(0, 0, 1);
        x.sub(0, 0, 9);
        x.move(0, 1);
        x.move(0, 0);
        x.stand(0, 1, 91, 0);
        due("nothing", x.count(6), 0);
        x.sub(0, 0, 6);
        x.sub(0, 6, 0);
        due("the sub alone", x.count(6), 1);
        play("000");
        x.point(0);
        due("three points", x.count(6), 4);
        due("a standing that changes nothing is told", x.stand(0, 2, 70, 20), true);
        due("and can be undone", x.undo(), 4);
    }

    private void undoOverAndBack() {
        says("The latest that can be undone is undone: how many more can be");
        begin(blank(3, 6));
        play("110");
        x.sub(0, 1, 6);
        play("00");
        due("over", x.now(3), 1);
        due("longest", x.run(2), 2);
        due("undo", x.undo(), 5);
        due("not over", x.now(3), 0);
        due("a chance again", x.chance(), 400);
        due("longest", x.run(2), 1);
        due("as he served", askPlayer(0, 6, 7), 1);
        due("another one has it", x.point(1), 1);
        due("who had it", x.was(4, 0), 1);
        due("over", x.now(3), 1);
        due("of theirs", x.now(1), 3);
    }

    private void askingChangesNothing() {
        says("What is asked changes nothing");
        begin(blank(9, 6));
        play("1");
        x.move(0, 6);
        int[] before = picture();
        for (int side = 0; side < 2; side++) {
            x.worth(side);
            x.ifSub(side, 0, 6);
            x.maySub(side, 0, 6);
            x.mayMove(side, side == 0 ? 0 : 6);
            x.subsNow(side);
            x.weak(side, 0);
            x.strong(side, 0);
            x.streak(side, 5);
            x.ifSwapped(side, 1, 4);
            for (int what = 0; what < 3; what++) {
                x.bestSub(side, what);
                x.bestMove(side, what);
                x.bestSwap(side, what);
                x.safe(side, what);
                x.strength(side, what);
            }
        }
        x.likely(5, 5);
        x.ends(0, 3);
        x.length();
        x.valueAt(3, 4, 5, 2, 0);
        x.chanceAt(5, 4, 1);
        x.table(5, 1);
        x.saddle();
        x.run(2);
        dueEach("all as it was", picture(), before);
        due("undo", x.undo(), 1);
        dueEach("the move is undone", onCourt(0), 0, 1, 2, 3, 4, 5);
    }

    private int[] picture() {
        int[] all = new int[44];
        for (int k = 0; k < 9; k++) {
            all[k] = x.now(k);
            all[9 + k] = x.count(k);
        }
        for (int spot = 1; spot <= 6; spot++) {
            all[17 + spot] = x.on(0, spot);
            all[23 + spot] = x.on(1, spot);
            all[29 + spot] = x.lineUp(0, spot);
            all[35 + spot] = x.standing(0, spot, 0);
        }
        all[42] = x.value();
        all[43] = x.chance();
        return all;
    }

    // ---- promises

    private void playerBounds() {
        says("IndexOutOfBoundsException: no such one. NoSuchElementException: no such what");
        begin(alike("ours", "abcdefgh", "1 2 3") + alike("theirs", "mnopqr", "4 5 6") + STARTS);
        due("ours 7", askPlayer(0, 7, 0), 1);
        due("theirs 5", askPlayer(1, 5, 2), 6);
        due("ours 8", askPlayer(0, 8, 0), OUT_OF_BOUNDS);
        due("theirs 6", askPlayer(1, 6, 0), OUT_OF_BOUNDS);
        due("below", askPlayer(0, -1, 0), OUT_OF_BOUNDS);
        due("side 2", askPlayer(2, 0, 0), OUT_OF_BOUNDS);
        due("side -1", askPlayer(-1, 0, 0), OUT_OF_BOUNDS);
        due("what 8", askPlayer(0, 0, 8), NO_ELEMENT);
        due("what -1", askPlayer(1, 0, -1), NO_ELEMENT);
        says("IndexOutOfBoundsException ahead of NoSuchElementException");
        due("both", askPlayer(0, 8, 8), OUT_OF_BOUNDS);
        due("both", askPlayer(2, 0, -1), OUT_OF_BOUNDS);
    }

    private void playerSpots() {
        says("4 the SPOT (0: not on the court)");
        begin(blank(9, 6));
        for (int p = 0; p < 9; p++) {
            due("of " + p, askPlayer(0, p, 4), p < 6 ? p + 1 : 0);
            due("whether free", askPlayer(0, p, 3), p == FREE ? 1 : 0);
        }
        x.sub(0, 2, 6);
        x.move(0, 5);
        dueEach("spots", new int[] {(int) askPlayer(0, 2, 4), (int) askPlayer(0, 6, 4), (int) askPlayer(0, 4, 4),
            (int) askPlayer(0, FREE, 4)}, 0, 3, 0, 5);
        play("10");
        dueEach("turned", new int[] {(int) askPlayer(0, 0, 4), (int) askPlayer(0, 6, 4), (int) askPlayer(0, 4, 4),
            (int) askPlayer(0, FREE, 4)}, 6, 2, 4, 0);
    }

    private void playerRoles() {
        says("5 0 a STARTER, 1 a MATE, 2 neither, 6 of a STARTER his MATE, of a MATE his STARTER (-2: none)");
        begin(blank(9, 6));
        int[] roles = {0, 0, 0, 0, 0, 0, 2, 2, 2};
        for (int p = 0; p < 9; p++) {
            due("role", askPlayer(1, p, 5), roles[p]);
            due("none of his", askPlayer(1, p, 6), -2);
        }
        x.sub(1, 0, 7);
        x.move(1, 6);
        due("a starter who is out", askPlayer(1, 0, 5), 0);
        due("his mate", askPlayer(1, 0, 6), 7);
        due("a mate", askPlayer(1, 7, 5), 1);
        due("his starter, number 0", askPlayer(1, 7, 6), 0);
        due("the free is neither", askPlayer(1, FREE, 5), 2);
        due("he has none", askPlayer(1, FREE, 6), -2);
        due("for whom he stands has none", askPlayer(1, 5, 6), -2);
        due("of the other side", askPlayer(0, 7, 5), 2);
        x.sub(1, 7, 0);
        due("a mate for ever", askPlayer(1, 7, 5), 1);
        due("a starter for ever", askPlayer(1, 0, 5), 0);
    }

    private void playerPoints() {
        says("7 how many POINTS his side had as he served");
        begin(blank(9, 6));
        play("0010110");
        // 0 serves: two; theirs' 1: lost; ours' 1: lost; theirs' 2: one, then lost; ours' 2 serves
        dueEach("ours", new int[] {(int) askPlayer(0, 0, 7), (int) askPlayer(0, 1, 7), (int) askPlayer(0, 2, 7)}, 2, 0, 0);
        dueEach("theirs", new int[] {(int) askPlayer(1, 0, 7), (int) askPlayer(1, 1, 7), (int) askPlayer(1, 2, 7)}, 0, 0, 1);
        x.sub(0, 2, 6);
        play("0");
        due("a mate", askPlayer(0, 6, 7), 1);
        due("not his starter", askPlayer(0, 2, 7), 0);
        x.undo();
        due("undone", askPlayer(0, 6, 7), 0);
    }

    private void onBounds() {
        says("Who is on a SPOT; NONE: no such ones");
        begin(BLANK);
        dueEach("on", new int[] {x.on(0, 0), x.on(0, 7), x.on(0, -1), x.on(2, 1), x.on(-1, 1), x.on(1, 6)},
                NONE, NONE, NONE, NONE, NONE, 5);
        says("Who is on a SPOT of the LINE-UP; NONE: no such ones");
        dueEach("lineUp", new int[] {x.lineUp(0, 0), x.lineUp(0, 7), x.lineUp(1, -1), x.lineUp(2, 1), x.lineUp(-1, 1),
            x.lineUp(1, 6)}, NONE, NONE, NONE, NONE, NONE, 5);
        says("LINE-UP of a SIDE: its six, the FREE aside: for him the one for whom he stands");
        x.move(1, 6);
        due("on", x.on(1, 6), FREE);
        due("lineUp", x.lineUp(1, 6), 5);
    }

    private void now() {
        says("NONE for another what");
        begin(blank(9, 6) + "first theirs;");
        x.sub(1, 0, 6);
        play("0010");
        dueEach("now", new int[] {x.now(0), x.now(1), x.now(2), x.now(3), x.now(4), x.now(5), x.now(6), x.now(7), x.now(8)},
                3, 1, 0, 0, 6, 5, 2, 1, 4);
        due("now(9)", x.now(9), NONE);
        due("now(-1)", x.now(-1), NONE);
    }

    private void strength() {
        says("Of a SIDE on the court now, what 0 NET of its FRONT, 1 BACK of its REAR, 2 SERVE of who is on SPOT 1");
        begin("points 9;" + squad("ours", "abcdefi", "1 2 4", "8 16 32", "64 3 5", "7 9 11", "13 15 17", "19 21 23", "90 80 70")
                + "free i;" + alike("theirs", "mnopqr", "0 0 0") + STARTS + "first theirs;");
        dueEach("ours", new int[] {x.strength(0, 0), x.strength(0, 1), x.strength(0, 2)}, 16 + 3 + 9, 4 + 23 + 17, 1);
        x.move(0, 1);
        dueEach("with the free on 1", new int[] {x.strength(0, 0), x.strength(0, 1), x.strength(0, 2)}, 28, 70 + 23 + 17, 90);
        x.point(0);
        // b serves, c d e at the net, the FREE on 6, f on 5
        dueEach("turned", new int[] {x.strength(0, 0), x.strength(0, 1), x.strength(0, 2)}, 3 + 9 + 15, 32 + 70 + 23, 8);
        dueEach("theirs", new int[] {x.strength(1, 0), x.strength(1, 1), x.strength(1, 2)}, 0, 0, 0);
        says("strength NONE: no such ones");
        dueEach("strength", new int[] {x.strength(0, 3), x.strength(0, -1), x.strength(2, 0), x.strength(-1, 0)},
                NONE, NONE, NONE, NONE);
    }

    private void together() {
        says("By how many of the TURNS 0 .. 5 of the LINE-UP two PLAYERS of it are FRONT together, REAR together");
        begin(blank(9, 6));
        // apart by so many SPOTS: 1 or 5: 2, 2 or 4: 1, 3: 0
        int[] due = {0, 2, 1, 0, 1, 2};
        for (int p = 0; p < 6; p++) {
            for (int q = 0; q < 6; q++) {
                if (p != q) {
                    due("front", x.together(0, p, q, 0), due[Math.abs(p - q)]);
                    due("rear", x.together(1, p, q, 1), due[Math.abs(p - q)]);
                }
            }
        }
        says("-2: one isn't of it; NONE: no such ones, one and the same");
        x.sub(0, 1, 6);
        x.move(0, 5);
        dueEach("one isn't of it", new int[] {x.together(0, 0, 7, 0), x.together(0, 7, 0, 1), x.together(0, 1, 0, 0),
            x.together(0, 0, FREE, 0)}, -2, -2, -2, -2);
        due("a mate is", x.together(0, 6, 0, 0), 2);
        due("for whom the free stands is", x.together(0, 4, 3, 1), 2);
        dueEach("no such ones", new int[] {x.together(2, 0, 1, 0), x.together(0, 0, 9, 0), x.together(0, -1, 0, 0),
            x.together(0, 0, 2, 2), x.together(0, 0, 2, -1), x.together(0, 0, 0, 0)}, NONE, NONE, NONE, NONE, NONE, NONE);
        says("Of several answers that hold NONE goes first");
        dueEach("not of it, and none", new int[] {x.together(0, 7, 7, 0), x.together(0, 7, 0, 2), x.together(0, 7, 9, 0)},
                NONE, NONE, NONE);
    }

    private void maySub() {
        says("Whether a SUB can be: 0, or what sub() would tell in place of how many are left");
        begin(blank(3, 2));
        dueEach("maySub", new int[] {x.maySub(0, 0, 6), x.maySub(2, 0, 6), x.maySub(0, 9, 6), x.maySub(0, 0, 9),
            x.maySub(0, 6, 7), x.maySub(0, 0, 1), x.maySub(0, 0, FREE)}, 0, NONE, NONE, NONE, -4, -5, -5);
        due("none was", x.now(4), 2);
        due("nothing to undo", x.count(6), 0);
        x.sub(0, 0, 6);
        due("these two", x.maySub(0, 6, 7), -6);
        due("back", x.maySub(0, 6, 0), 0);
        x.sub(0, 1, 7);
        due("none left", x.maySub(0, 6, 0), -3);
        play("000");
        due("over", x.maySub(1, 0, 6), -2);
    }

    private void mayMove() {
        says("Whether a MOVE can be: 0, or what move() would tell in place of a PLAYER");
        begin("points 3;" + BLANK.replace("free u;", ""));
        dueEach("mayMove", new int[] {x.mayMove(0, 5), x.mayMove(0, 6), x.mayMove(0, 1), x.mayMove(0, 0), x.mayMove(0, 2),
            x.mayMove(2, 5), x.mayMove(1, 5)}, 0, 0, -5, -3, NONE, NONE, -3);
        due("nothing to undo", x.count(6), 0);
        x.move(0, 5);
        dueEach("he is there", new int[] {x.mayMove(0, 0), x.mayMove(0, 6)}, -4, -3);
        play("0");
        due("a point since", x.mayMove(0, 0), 0);
        play("00");
        due("over", x.mayMove(0, 0), -2);
    }

    private void subsNow() {
        says("How many SUBS there are now that can be");
        begin(blank(3, 3));
        due("six for two", x.subsNow(0), 12);
        x.sub(0, 0, 6);
        due("five for one, and one back", x.subsNow(0), 6);
        x.sub(0, 1, 7);
        due("two back", x.subsNow(0), 2);
        x.move(0, 6);
        due("who is out is no mate", x.subsNow(0), 2);
        x.sub(0, 6, 0);
        due("none left", x.subsNow(0), 0);
        due("theirs", x.subsNow(1), 12);
        x.move(1, 1);
        due("one is out because of the free", x.subsNow(1), 10);
        play("000");
        due("over", x.subsNow(1), 0);
        says("subsNow NONE: no such SIDE");
        due("side 2", x.subsNow(2), NONE);
        due("side -1", x.subsNow(-1), NONE);
        begin(alike("ours", "abcdefi", "0 0 0") + "free i;" + alike("theirs", "mnopqr", "0 0 0") + STARTS);
        due("only the free waits", x.subsNow(0), 0);
        due("nobody waits", x.subsNow(1), 0);
    }

    private void ranked() {
        says("by SERVE, NET, BACK together, the most first, of like ones by numbers");
        begin(squad("ours", "abcdefg", "1 1 1", "9 0 0", "0 9 0", "0 0 9", "3 3 3", "99 0 0", "0 1 1")
                + alike("theirs", "mnopqr", "0 0 0") + STARTS);
        int[] got = new int[8];
        for (int k = 0; k < 8; k++) {
            got[k] = x.ranked(0, k);
        }
        dueEach("ranked", got, 5, 1, 2, 3, 4, 0, 6, -2);
        begin(alike("ours", "abcdefghijkl", "0 0 0") + alike("theirs", "mnopqr", "0 0 0") + STARTS);
        due("the last of twelve", x.ranked(0, 11), 11);
        due("no more than twelve", x.ranked(0, 12), -2);
        says("-2: there are not so many; NONE: no such ones");
        due("theirs' last", x.ranked(1, 5), 5);
        due("theirs have six", x.ranked(1, 6), -2);
        due("far beyond", x.ranked(1, Integer.MAX_VALUE), -2);
        dueEach("no such ones", new int[] {x.ranked(0, -1), x.ranked(2, 0), x.ranked(-1, 0), x.ranked(2, 99)},
                NONE, NONE, NONE, NONE);
    }

    private void runNow() {
        says("0 how long the one now is (0 without a POINT of who serves), 1 who serves now (NUMBER)");
        begin(blank(9, 6));
        dueEach("at first", new int[] {x.run(0), x.run(1)}, 0, 0);
        play("00");
        dueEach("two", new int[] {x.run(0), x.run(1)}, 2, 0);
        play("1");
        dueEach("theirs serve", new int[] {x.run(0), x.run(1)}, 0, 1);
        play("1");
        dueEach("one", new int[] {x.run(0), x.run(1)}, 1, 1);
        play("0");
        dueEach("ours serve", new int[] {x.run(0), x.run(1)}, 0, 1);
        says("run NONE for another what");
        due("run(5)", x.run(5), NONE);
        due("run(-1)", x.run(-1), NONE);
    }

    private void runLongest() {
        says("2 the longest of all, 3 whose it was (NUMBER; -2: none), 4 of which SIDE (-2), of several the first");
        begin(blank(9, 6));
        dueEach("without a point", new int[] {x.run(2), x.run(3), x.run(4)}, 0, -2, -2);
        play("1");
        dueEach("no point of who serves", new int[] {x.run(2), x.run(3), x.run(4)}, 0, -2, -2);
        play("11");
        dueEach("theirs", new int[] {x.run(2), x.run(3), x.run(4)}, 2, 1, 1);
        play("000");
        dueEach("like ones, the first", new int[] {x.run(2), x.run(3), x.run(4)}, 2, 1, 1);
        play("0");
        dueEach("a longer one", new int[] {x.run(2), x.run(3), x.run(4)}, 3, 1, 0);
        play("10");
        dueEach("it stays", new int[] {x.run(2), x.run(3), x.run(4)}, 3, 1, 0);
    }

    private void runByNames() {
        says("RUN: POINTS one behind another of one who serves (by NAMES), as one SIDE serves on");
        begin(blank(25, 6));
        play("00");
        x.sub(0, 0, 6);
        dueEach("another one serves", new int[] {x.run(0), x.run(1), x.run(2), x.run(3)}, 0, 6, 2, 0);
        play("0");
        dueEach("his own", new int[] {x.run(0), x.run(2), x.run(3)}, 1, 2, 0);
        play("00");
        dueEach("his own", new int[] {x.run(0), x.run(2), x.run(3)}, 3, 3, 6);
        x.sub(0, 6, 0);
        play("0");
        dueEach("not on to the first one", new int[] {x.run(0), x.run(1)}, 1, 0);
        // All six of both SIDES serve a POINT; then 0 serves again, a new RUN.
        begin(blank(25, 6));
        play("0" + "101010101010");
        dueEach("he serves again", new int[] {x.run(0), x.run(1), x.run(2), x.run(3)}, 0, 0, 1, 0);
        play("0");
        due("a new one", x.run(0), 1);
        // A SUB of one who does not serve leaves the RUN.
        x.sub(0, 1, 6);
        x.sub(1, 0, 6);
        due("it goes on", x.run(0), 1);
    }

    private void was() {
        says("The k-th POINT (k from 0 on), what 0 which SIDE had it, 1 which one served, 2 who served (NUMBER)");
        begin(blank(3, 6) + "first theirs;");
        x.sub(1, 0, 6);
        play("1001");
        int[][] due = {{1, 1, 6}, {0, 1, 6}, {0, 0, 1}, {1, 0, 1}};
        for (int k = 0; k < 4; k++) {
            dueEach("point " + k, new int[] {x.was(k, 0), x.was(k, 1), x.was(k, 2)}, due[k]);
        }
        says("was -2: there are not so many; NONE: no such ones");
        dueEach("beyond", new int[] {x.was(4, 0), x.was(4, 2), x.was(Integer.MAX_VALUE, 1)}, -2, -2, -2);
        dueEach("no such ones", new int[] {x.was(-1, 0), x.was(0, 3), x.was(0, -1), x.was(4, 3), x.was(Integer.MIN_VALUE, 0)},
                NONE, NONE, NONE, NONE, NONE);
        x.undo();
        due("undone", x.was(3, 0), -2);
    }

    private void till() {
        says("How many TURNS of its SIDE it takes till a PLAYER of its LINE-UP is on a SPOT (0: he is there)");
        begin(blank(9, 6));
        int[][] due = {{0, 5, 4, 3, 2, 1}, {1, 0, 5, 4, 3, 2}, {2, 1, 0, 5, 4, 3}, {3, 2, 1, 0, 5, 4}, {4, 3, 2, 1, 0, 5},
            {5, 4, 3, 2, 1, 0}};
        for (int p = 0; p < 6; p++) {
            for (int spot = 1; spot <= 6; spot++) {
                due("of " + p + " till " + spot, x.till(1, p, spot), due[p][spot - 1]);
            }
        }
        play("1");
        due("turned once", x.till(1, 1, 1), 0);
        due("turned once", x.till(1, 0, 1), 5);
        says("till -2: he isn't of it; NONE: no such ones");
        x.sub(0, 0, 6);
        x.move(0, 5);
        dueEach("isn't of it", new int[] {x.till(0, 0, 1), x.till(0, 7, 1), x.till(0, FREE, 5)}, -2, -2, -2);
        due("a mate is", x.till(0, 6, 1), 0);
        due("for whom the free stands is", x.till(0, 4, 5), 0);
        dueEach("no such ones", new int[] {x.till(2, 0, 1), x.till(0, 9, 1), x.till(0, -1, 1), x.till(0, 1, 0), x.till(0, 1, 7),
            x.till(0, 7, 0)}, NONE, NONE, NONE, NONE, NONE, NONE);
    }

    private void fiveHundredAndTwelveCalls() {
        says("An object is used for at most 512 calls after it has been made");
        x = new CourtSix();
        Tape.feed(x, BLANK);
        int calls = (BLANK.length() + 19) / 20 + 1;
        due("the 1st text", x.text(BLANK.length()), BLANK_LINES);
        for (; calls + 3 <= 512; calls += 3) {
            due("a point", x.point(1), 1);
            due("a value", x.valueAt(24, 24, 0, 0, 1), 600000);
            due("undone", x.undo(), 0);
        }
        due("the last one", x.now(8), 0);
    }
}
