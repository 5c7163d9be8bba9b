/** Promise by promise: answers worked out by hand, the edges, wrong inputs. */
public final class PromiseTest extends Sheet {
    private static final String OURS = "ours a 10 1 2;ours b 20 3 4;ours c 30 5 6;ours d 40 7 8;ours e 50 9 10;"
            + "ours f 60 11 12;ours g 70 13 14;ours h 80 15 16;ours i 5 0 90;free i;";
    private static final String THEIRS = "theirs m 1 2 1;theirs n 2 2 1;theirs o 3 2 1;theirs p 4 2 1;"
            + "theirs q 5 2 1;theirs r 6 2 1;theirs s 7 50 50;";
    /** CHANCE at first: ours 500 + 10 + 15 + 24 - 6 - 3 - 50 = 490, theirs 500 + 1 + 9 - 39 - 50 = 421. */
    private static final String SMALL = "points 5;subs 3;edge 50;" + OURS + THEIRS + STARTS;
    private static final int SMALL_LINES = 22;

    public static void main(String[] args) {
        PromiseTest test = new PromiseTest();
        test.newObject();
        test.feed();
        test.text();
        test.textForms();
        test.faultMisplaced();
        test.faultTooMuch();
        test.faultToldAlready();
        test.faultOrder();
        test.player();
        test.onAndLineUp();
        test.point();
        test.sub();
        test.subAndFree();
        test.move();
        test.freeLeavesAtSpotFour();
        test.standAndStanding();
        test.wrong();
        test.undo();
        test.undoTakesAllBack();
        test.now();
        test.chance();
        test.chanceAt();
        test.value();
        test.valueAt();
        test.table();
        test.safeAndSaddle();
        test.reply();
        test.worth();
        test.ifSubAndBestSub();
        test.bestMove();
        test.likelyEndsLength();
        test.streak();
        test.weakAndStrong();
        test.swaps();
        test.strength();
        test.together();
        test.mayAndSubsNow();
        test.ranked();
        test.named();
        test.run();
        test.was();
        test.till();
        test.count();
        test.askingChangesNothing();
        test.check.end();
    }

    private void faultDue(String text, int kind, int place) {
        x = new CourtSix();
        due("text: " + text, Tape.tell(x, text), kind == 0 ? x.count(0) : NONE);
        due("fault(0) of " + text, x.fault(0), kind);
        due("fault(1) of " + text, x.fault(1), place);
    }

    // 1
    private void newObject() {
        x = new CourtSix();
        due("1 count(7)", x.count(7), 0);
        due("1 fault(0)", x.fault(0), 0);
        due("1 fault(1)", x.fault(1), NONE);
        for (int what = -1; what < 7; what++) {
            due("1 count", x.count(what), NONE);
            due("1 now", x.now(what), NONE);
            due("1 run", x.run(what), NONE);
        }
        due("1 player", askPlayer(0, 0, 9), OUT_OF_BOUNDS);
        due("1 stand", x.stand(0, 1, 1, 1), false);
        due("1 worth", x.worth(1), -2000000);
        int[] all = {x.on(0, 1), x.lineUp(0, 1), x.point(0), x.sub(0, 0, 6), x.move(0, 5), x.standing(0, 1, 0),
            x.wrong(0, 0), x.undo(), x.chance(), x.chanceAt(0, 0, 0), x.value(), x.valueAt(0, 0, 0, 0, 0),
            x.table(0, 0), x.safe(0, 0), x.saddle(), x.reply(0, 0), x.ifSub(0, 0, 6), x.bestSub(0, 0),
            x.bestMove(0, 0), x.likely(0, 0), x.ends(0, 0), x.length(), x.streak(0, 0), x.weak(0, 0),
            x.ifSwapped(0, 1, 2), x.strength(0, 0), x.together(0, 0, 1, 0), x.strong(0, 0), x.maySub(0, 0, 6),
            x.mayMove(0, 5), x.subsNow(0), x.bestSwap(0, 0), x.ranked(0, 0), x.named(0, 1), x.was(0, 0),
            x.till(0, 0, 1)};
        for (int k = 0; k < all.length; k++) {
            due("1 nobody plays, call " + k, all[k], NONE);
        }
    }

    // 2
    private void feed() {
        x = new CourtSix();
        for (int k = 1; k <= 45; k++) {
            due("2 feed", x.feed(0x20202020, 0x20202020, 0x20202020, 0x20202020, 0x20202020), 20 * k);
        }
        due("2 feed beyond 900", x.feed(1, 2, 3, 4, 5), NONE);
        due("2 none came", x.count(7), 900);
        due("2 all blanks", x.text(900), NONE);
        due("2 fault", x.fault(0), 4);
        due("2 place", x.fault(1), 900);
        due("2 feed anew", x.feed(-1, -1, -1, -1, -1), 20);
        x.text(20);
        due("2 byte 255 is none", x.fault(1), 0);
        // The highest byte comes first, and of all five numbers in their order.
        Tape.feed(x, "subs 1;edge 301;");
        x.text(16);
        due("2 order", x.fault(1), 12);
    }

    // 3
    private void text() {
        x = new CourtSix();
        due("3 below 0", x.text(-1), -2);
        due("3 too many", x.text(1), -2);
        due("3 no fault of -2", x.fault(0), 0);
        Tape.feed(x, SMALL);
        int bytes = x.count(7);
        due("3 the tape stays", x.text(bytes + 1), -2);
        due("3 the tape stays", x.count(7), bytes);
        due("3 lines", x.text(SMALL.length()), SMALL_LINES);
        due("3 the tape is empty", x.count(7), 0);
        x.point(0);
        x.stand(0, 1, 3, 3);
        due("3 a fault", Tape.tell(x, "points 3;"), NONE);
        due("3 the tape is empty", x.count(7), 0);
        due("3 all else stays", x.now(0), 1);
        due("3 all else stays", x.count(6), 2);
        due("3 all else stays", x.count(1), 5);
        due("3 anew", Tape.tell(x, "points 7;" + OURS + THEIRS + STARTS), 20);
        due("3 anew 0", x.now(0), 0);
        due("3 anew nothing to undo", x.undo(), NONE);
        due("3 anew points", x.count(1), 7);
        due("3 anew standing", x.standing(0, 1, 0), 70);
        due("3 anew served", x.was(0, 0), -2);
        due("3 what was told before is not told now: subs", x.count(2), 6);
        due("3 what was told before is not told now: edge", x.count(3), 100);
    }

    // 3, 4: the forms that a TEXT may have
    private void textForms() {
        faultDue(OURS + THEIRS + STARTS, 0, NONE);
        due("3 points without", x.count(1), 25);
        due("3 first without", x.now(2), 0);
        faultDue(OURS + "first theirs;" + THEIRS + STARTS + "  \n ", 0, NONE);
        due("3 first theirs", x.now(2), 1);
        faultDue("points025;subs\n12 ;edge 0300;" + OURS + THEIRS + STARTS, 0, NONE);
        due("3 zeros ahead", x.count(1), 25);
        due("3 subs", x.count(2), 12);
        due("3 edge", x.count(3), 300);
        faultDue("theirs abcdef 0 0 99;" + OURS + THEIRS + STARTS + "points 3;free abcdef;", 0, NONE);
        due("3 numbers as told", x.named(1, Tape.name("abcdef")), 0);
        due("3 free behind the start", askPlayer(1, 0, 3), 1);
    }

    // 4
    private void faultMisplaced() {
        due("4 what", x.fault(2), NONE);
        due("4 what", x.fault(-1), NONE);
        faultDue(";", 1, 0);
        faultDue(" x;", 1, 1);
        faultDue("7;", 1, 0);
        faultDue("POINTS 3;", 1, 0);
        faultDue("points x;", 1, 7);
        faultDue("points ;", 1, 7);
        faultDue("points", 1, 6);
        faultDue("points ", 1, 7);
        faultDue("points 3", 1, 8);
        faultDue("points 3 4;", 1, 9);
        faultDue("points 3\t;", 1, 8);
        faultDue("pointsx 3;", 1, 0);
        faultDue("subs -1;", 1, 5);
        faultDue("ours toolong 1 1 1;", 1, 5);
        faultDue("ours free 1 1 1;", 1, 5);
        faultDue("ours 1 1 1 1;", 1, 5);
        faultDue("ours a 1 1;", 1, 10);
        faultDue("ours a 1 1 1 1;", 1, 13);
        faultDue("free a;", 1, 5);
        faultDue("free 1;ours a 1 1 1;", 1, 5);
        faultDue("start a;", 1, 6);
        faultDue("start free;", 1, 6);
        faultDue("first;", 1, 5);
        faultDue("first points;", 1, 6);
        faultDue(OURS + THEIRS + "start ours a b c d e m;", 1, OURS.length() + THEIRS.length() + 21);
        faultDue(OURS + "start ours a b c d e;", 1, OURS.length() + 20);
        faultDue(OURS + "start ours a b c d e f g;", 1, OURS.length() + 23);
        faultDue(OURS + THEIRS + STARTS + "first", 1, OURS.length() + THEIRS.length() + STARTS.length() + 5);
        faultDue(OURS + "start ours a b c d e f;", 4, OURS.length() + 23);
        faultDue("", 4, 0);
    }

    private void faultTooMuch() {
        faultDue("points 2;", 2, 7);
        faultDue("points 26;", 2, 7);
        faultDue("points 4294967299;", 2, 7);
        faultDue("subs 13;", 2, 5);
        faultDue("edge 301;", 2, 5);
        faultDue("ours a 100 1 1;", 2, 7);
        faultDue("ours a 1 100 1;", 2, 9);
        faultDue("theirs a 1 1 100;", 2, 13);
        StringBuilder twelve = new StringBuilder();
        for (char c = 'a'; c < 'm'; c++) {
            twelve.append("theirs ").append(c).append(" 1 1 1;");
        }
        faultDue(twelve + "ours z 1 1 1;", 4, twelve.length() + 13);
        faultDue(twelve + " theirs z 1 1 1;", 2, twelve.length() + 1);
        faultDue(twelve + "theirs a;", 2, twelve.length());
    }

    private void faultToldAlready() {
        faultDue("points 3;points 3;", 3, 9);
        faultDue("points 3;points", 3, 9);
        faultDue("subs 3; subs 3;", 3, 8);
        faultDue("edge 3;edge 3;", 3, 7);
        faultDue("first ours;first theirs;", 3, 11);
        faultDue("ours a 1 1 1;theirs a 1 1 1;", 3, 20);
        faultDue("theirs a 1 1 1;ours a 1 1 1;", 3, 20);
        faultDue(OURS + "free i;", 3, OURS.length() + 5);
        faultDue(OURS + "free a;", 3, OURS.length() + 5);
        faultDue(OURS + THEIRS + "free m;free n;", 3, OURS.length() + THEIRS.length() + 12);
        faultDue(OURS + "start ours a b c d e i;", 3, OURS.length() + 21);
        faultDue(OURS + "start ours a b c d e a;", 3, OURS.length() + 21);
        faultDue(THEIRS + "start theirs m n o p q r;free m;", 3, THEIRS.length() + 30);
        faultDue(OURS + "start ours a b c d e f;start ours", 3, OURS.length() + 29);
    }

    private void faultOrder() {
        faultDue("points 26 x;", 2, 7);
        faultDue("points x;points 3;", 1, 7);
        faultDue("ours a 1 1 100;ours a 1 1 1;", 2, 11);
        faultDue("ours a 1 1 1;free a", 1, 19);
        faultDue(OURS + THEIRS + "start ours a b", 1, OURS.length() + THEIRS.length() + 14);
        x = new CourtSix();
        Tape.tell(x, "?");
        due("4 a fault", x.fault(0), 1);
        x.text(-1);
        due("4 still", x.fault(0), 1);
        Tape.tell(x, SMALL);
        due("4 no fault", x.fault(0), 0);
        due("4 no place", x.fault(1), NONE);
    }

    // 5
    private void player() {
        begin(SMALL);
        due("5 serve", askPlayer(0, 1, 0), 20);
        due("5 net", askPlayer(0, 1, 1), 3);
        due("5 back", askPlayer(0, 1, 2), 4);
        due("5 serve", askPlayer(1, 5, 0), 6);
        due("5 free", askPlayer(0, 8, 3), 1);
        due("5 free", askPlayer(0, 7, 3), 0);
        due("5 spot", askPlayer(0, 2, 4), 3);
        due("5 no spot", askPlayer(0, 6, 4), 0);
        due("5 no spot of the free", askPlayer(0, 8, 4), 0);
        due("5 starter", askPlayer(0, 5, 5), 0);
        due("5 neither", askPlayer(0, 6, 5), 2);
        due("5 the free is neither", askPlayer(0, 8, 5), 2);
        due("5 no mate", askPlayer(0, 0, 6), -2);
        due("5 neither's mate", askPlayer(0, 6, 6), -2);
        due("5 side", askPlayer(2, 0, 0), OUT_OF_BOUNDS);
        due("5 side", askPlayer(-1, 0, 0), OUT_OF_BOUNDS);
        due("5 p", askPlayer(0, 9, 0), OUT_OF_BOUNDS);
        due("5 p", askPlayer(1, 7, 0), OUT_OF_BOUNDS);
        due("5 p", askPlayer(1, -1, 8), OUT_OF_BOUNDS);
        due("5 what", askPlayer(1, 0, 8), NO_ELEMENT);
        due("5 what", askPlayer(1, 0, -1), NO_ELEMENT);
        x.sub(0, 1, 6);
        due("5 mate", askPlayer(0, 6, 5), 1);
        due("5 mate's starter", askPlayer(0, 6, 6), 1);
        due("5 starter's mate", askPlayer(0, 1, 6), 6);
        due("5 gone", askPlayer(0, 1, 4), 0);
        due("5 came", askPlayer(0, 6, 4), 2);
        x.sub(0, 6, 1);
        due("5 still a mate", askPlayer(0, 6, 5), 1);
        x.move(0, 6);
        due("5 free's spot", askPlayer(0, 8, 4), 6);
        due("5 stood for", askPlayer(0, 5, 4), 0);
        x.point(0);
        x.point(1);
        x.point(1);
        x.point(0);
        x.point(0);
        due("5 points as a served", askPlayer(0, 0, 7), 1);
        due("5 points as b served", askPlayer(0, 1, 7), 1);
        due("5 points as n served", askPlayer(1, 1, 7), 1);
        due("5 points as m served", askPlayer(1, 0, 7), 0);
        x.undo();
        due("5 undone", askPlayer(0, 1, 7), 0);
    }

    // 6, 7
    private void onAndLineUp() {
        begin(SMALL);
        for (int spot = 1; spot <= 6; spot++) {
            due("6 on", x.on(0, spot), spot - 1);
            due("7 lineUp", x.lineUp(1, spot), spot - 1);
        }
        x.move(0, 5);
        due("6 the free", x.on(0, 5), 8);
        due("7 for him", x.lineUp(0, 5), 4);
        due("6 spot", x.on(0, 0), NONE);
        due("6 spot", x.on(0, 7), NONE);
        due("6 side", x.on(2, 1), NONE);
        due("7 spot", x.lineUp(0, 0), NONE);
        due("7 spot", x.lineUp(1, 7), NONE);
        due("7 side", x.lineUp(-1, 1), NONE);
    }

    // 8
    private void point() {
        begin(SMALL);
        due("8 side", x.point(2), NONE);
        due("8 side", x.point(-1), NONE);
        due("8 serves on", x.point(0), 0);
        due("8 no turn", x.on(0, 1), 0);
        due("8 serves now", x.point(1), 1);
        int[] turned = {1, 2, 3, 4, 5, 0};
        for (int spot = 1; spot <= 6; spot++) {
            due("8 turned", x.on(1, spot), turned[spot - 1]);
            due("8 not turned", x.on(0, spot), spot - 1);
        }
        for (int k = 0; k < 4; k++) {
            due("8 serves on", x.point(1), 1);
        }
        due("8 over", x.point(0), -2);
        due("8 over", x.point(1), -2);
        due("8 side ahead of over", x.point(3), NONE);
        due("8 points", x.now(1), 5);
    }

    // 9
    private void sub() {
        begin(SMALL);
        due("9 side", x.sub(2, 0, 6), NONE);
        due("9 goes", x.sub(0, 9, 6), NONE);
        due("9 comes", x.sub(0, 0, -1), NONE);
        due("9 not on the court", x.sub(0, 6, 7), -4);
        due("9 the free goes", x.sub(0, 8, 6), -4);
        due("9 on the court", x.sub(0, 0, 1), -5);
        due("9 oneself", x.sub(0, 0, 0), -5);
        due("9 the free comes", x.sub(0, 0, 8), -5);
        due("9 one", x.sub(0, 0, 6), 2);
        due("9 to his spot", x.on(0, 1), 6);
        due("9 another starter for him", x.sub(0, 1, 0), -6);
        due("9 a mate for another one", x.sub(0, 6, 7), -6);
        due("9 he comes back", x.sub(0, 6, 0), 1);
        due("9 not twice", x.sub(0, 0, 6), -6);
        due("9 not twice", x.sub(0, 0, 7), -6);
        due("9 a mate never again", x.sub(0, 1, 6), -6);
        due("9 two", x.sub(0, 1, 7), 0);
        due("9 none left", x.sub(0, 7, 1), -3);
        due("9 none left ahead of -4", x.sub(0, 8, 8), -3);
        due("9 the other one has its own", x.sub(1, 0, 6), 2);
        for (int k = 0; k < 5; k++) {
            x.point(0);
        }
        due("9 over", x.sub(0, 7, 1), -2);
        due("9 no such one ahead of over", x.sub(0, 7, 12), NONE);
        begin("subs 0;" + OURS + THEIRS + STARTS);
        due("9 never any", x.sub(0, 0, 6), -3);
    }

    // 9, 10: the FREE aside
    private void subAndFree() {
        begin(SMALL);
        x.move(0, 6);
        due("9 out because of the free", x.sub(0, 5, 6), -4);
        due("9 the free stands for him", x.sub(0, 1, 5), -5);
        due("9 another one", x.sub(0, 1, 6), 2);
        x.point(0);
        due("10 goes", x.move(0, 0), 5);
        due("9 he has not gone yet", x.sub(0, 5, 7), 1);
        x.point(0);
        due("10 comes for a mate", x.move(0, 6), 7);
        due("9 a mate is out", x.sub(0, 7, 5), -4);
        due("9 the mate is stood for", x.sub(0, 0, 7), -5);
    }

    // 10
    private void move() {
        begin(SMALL);
        due("10 side", x.move(2, 5), NONE);
        due("10 front", x.move(0, 2), NONE);
        due("10 front", x.move(0, 3), NONE);
        due("10 front", x.move(0, 4), NONE);
        due("10 spot", x.move(0, 7), NONE);
        due("10 spot", x.move(0, -1), NONE);
        due("10 no free", x.move(1, 5), -3);
        due("10 isn't there", x.move(0, 0), -3);
        due("10 who serves", x.move(0, 1), -5);
        due("10 comes", x.move(0, 6), 5);
        due("10 is there", x.move(0, 5), -3);
        due("10 is there, ahead of who serves", x.move(0, 1), -3);
        due("10 no point", x.move(0, 0), -4);
        x.point(1);
        due("10 goes", x.move(0, 0), 5);
        due("10 is back", x.on(0, 6), 5);
        due("10 no point", x.move(0, 1), -4);
        x.point(1);
        due("10 on 1 while the others serve", x.move(0, 1), 0);
        due("10 there", x.on(0, 1), 8);
        x.point(0);
        due("10 he turns", x.on(0, 6), 8);
        due("10 for the same one", x.lineUp(0, 6), 0);
        for (int k = 0; k < 4; k++) {
            x.point(0);
        }
        due("10 over", x.move(0, 0), -2);
        due("10 over, none", x.move(1, 5), -2);
        due("10 side ahead of over", x.move(2, 5), NONE);
    }

    private void freeLeavesAtSpotFour() {
        begin(SMALL);
        x.move(0, 5);
        x.point(1);
        due("8 he stays", x.on(0, 5), 8);
        x.point(0);
        due("8 the one for whom he stood", x.on(0, 4), 4);
        due("8 the free is out", askPlayer(0, 8, 4), 0);
        due("8 it was a move", x.move(0, 5), -4);
        due("8 and no sub", x.now(4), 3);
        x.undo();
        due("14 he is there again", x.on(0, 5), 8);
        x.point(0);
        x.point(1);
        due("10 a point since", x.move(0, 5), 5);
    }

    // 11, 12
    private void standAndStanding() {
        begin(SMALL);
        int[] xs = {70, 70, 45, 20, 20, 45};
        int[] ys = {70, 20, 20, 20, 70, 70};
        for (int spot = 1; spot <= 6; spot++) {
            due("12 x", x.standing(0, spot, 0), xs[spot - 1]);
            due("12 y", x.standing(1, spot, 1), ys[spot - 1]);
        }
        due("11 edges", x.stand(0, 6, 0, 90), true);
        due("12 x told", x.standing(0, 6, 0), 0);
        due("12 y told", x.standing(0, 6, 1), 90);
        due("12 of the other side", x.standing(1, 6, 0), 45);
        due("11 x", x.stand(0, 6, -1, 0), false);
        due("11 x", x.stand(0, 6, 91, 0), false);
        due("11 y", x.stand(0, 6, 0, -1), false);
        due("11 y", x.stand(0, 6, 0, 91), false);
        due("11 spot", x.stand(0, 0, 1, 1), false);
        due("11 spot", x.stand(0, 7, 1, 1), false);
        due("11 side", x.stand(2, 1, 1, 1), false);
        due("11 nothing to undo of false ones", x.count(6), 1);
        due("12 what", x.standing(0, 1, 2), NONE);
        due("12 what", x.standing(0, 1, -1), NONE);
        due("12 spot", x.standing(0, 7, 0), NONE);
        due("12 spot", x.standing(0, 0, 0), NONE);
        due("12 side", x.standing(-1, 1, 0), NONE);
        x.point(1);
        x.point(0);
        due("12 spots keep it as they turn", x.standing(0, 6, 1), 90);
        x.point(0);
        x.point(0);
        x.point(0);
        x.point(0);
        due("11 over, too", x.stand(0, 6, 1, 1), true);
    }

    // 13
    private void wrong() {
        begin(SMALL);
        due("13 none", x.wrong(0, 0), -2);
        due("13 k", x.wrong(0, -1), NONE);
        due("13 side", x.wrong(2, 0), NONE);
        for (int spot = 1; spot <= 6; spot++) {
            x.stand(0, spot, 50, 50);
            x.stand(1, spot, 50, 50);
        }
        int[] serving = {0, 1, 3, 4, 5, -2, -2};
        for (int k = 0; k < 7; k++) {
            due("13 like ones, serving", x.wrong(0, k), serving[k]);
            due("13 like ones, not serving", x.wrong(1, k), k);
        }
        due("13 not so many", x.wrong(1, 7), -2);
        x.point(1);
        due("13 serves now", x.wrong(1, 2), 3);
        due("13 serves no more", x.wrong(0, 2), 2);
        begin(SMALL);
        x.stand(1, 2, 70, 69);
        due("13 nearer by one", x.wrong(1, 0), -2);
        x.stand(1, 2, 45, 20);
        due("13 not more to the left", x.wrong(1, 0), 4);
        x.stand(1, 2, 46, 20);
        due("13 more to the left by one", x.wrong(1, 0), -2);
        x.stand(1, 5, 45, 70);
        due("13 5 and 6", x.wrong(1, 0), 5);
    }

    // 14
    private void undo() {
        begin(SMALL);
        due("14 none", x.undo(), NONE);
        for (int k = 0; k < 25; k++) {
            x.stand(0, 1, k, k);
        }
        due("14 twenty at most", x.count(6), 20);
        for (int k = 19; k >= 0; k--) {
            due("14 more", x.undo(), k);
            due("14 standing", x.standing(0, 1, 0), k + 4);
        }
        due("14 the eldest are forgotten", x.undo(), NONE);
        due("14 standing", x.standing(0, 1, 0), 4);
    }

    private void undoTakesAllBack() {
        begin(SMALL);
        x.point(1);
        x.move(0, 1);
        x.sub(0, 1, 6);
        x.stand(1, 3, 1, 2);
        x.point(0);
        due("14", x.undo(), 4);
        due("14 points", x.now(0), 0);
        due("14 serves", x.now(2), 1);
        due("14 turned", x.now(6), 0);
        due("14 the free", x.on(0, 1), 8);
        due("14 no point since", x.move(0, 0), -4);
        due("14", x.undo(), 3);
        due("14 standing", x.standing(1, 3, 1), 20);
        due("14", x.undo(), 2);
        due("14 sub", x.on(0, 2), 1);
        due("14 subs", x.now(4), 3);
        due("14 no mate", askPlayer(0, 6, 5), 2);
        due("14", x.undo(), 1);
        due("14 the free is out", x.on(0, 1), 0);
        due("14 he may move", x.mayMove(0, 5), 0);
        due("14", x.undo(), 0);
        due("14 points in all", x.now(8), 0);
        due("14", x.undo(), NONE);
        for (int k = 0; k < 5; k++) {
            x.point(0);
        }
        x.undo();
        due("14 not over any more", x.now(3), 0);
        due("14 a point again", x.point(1), 1);
    }

    // 15
    private void now() {
        begin(SMALL + "first theirs;");
        due("15 serves", x.now(2), 1);
        x.point(0);
        x.point(0);
        x.point(1);
        x.sub(1, 0, 6);
        int[] due = {2, 1, 1, 0, 3, 2, 1, 1, 3};
        for (int what = 0; what < due.length; what++) {
            due("15 now(" + what + ")", x.now(what), due[what]);
        }
        due("15 what", x.now(9), NONE);
        due("15 what", x.now(-1), NONE);
        begin("points 25;" + OURS + THEIRS + STARTS);
        for (int k = 0; k < 7; k++) {
            x.point(1);
            x.point(0);
        }
        due("15 modulo 6", x.now(6), 1);
        due("15 modulo 6", x.now(7), 1);
        begin(SMALL);
        for (int k = 0; k < 5; k++) {
            due("15 not over", x.now(3), 0);
            x.point(0);
        }
        due("15 over", x.now(3), 1);
    }

    // 16
    private void chance() {
        begin(SMALL);
        due("16 ours", x.chance(), 490);
        x.move(0, 5);
        due("16 with the free's back", x.chance(), 570);
        x.point(1);
        // n serves; theirs 9, ours 15 + 24 - 10 + 90
        due("16 theirs against the free", x.chance(), 500 + 2 + 9 - 119 - 50);
        for (int k = 0; k < 4; k++) {
            x.point(1);
        }
        due("16 over", x.chance(), -2);
        begin("edge 300;" + OURS + THEIRS + "theirs t 99 99 99;theirs u 9 99 9;theirs v 9 99 99;"
                + "theirs w 9 99 99;theirs x 9 99 99;start theirs t u v w x m;start ours a b c d e f;");
        due("16 50 at least", x.chance(), 50);
        x.point(1);
        x.point(0);
        due("16 50 at least", x.chance(), 50);
        begin("edge 0;first theirs;" + OURS + THEIRS + "theirs t 99 99 99;theirs u 9 99 9;theirs v 9 99 99;"
                + "theirs w 9 99 99;theirs x 9 99 99;start theirs t u v w x m;start ours a b c d e f;");
        due("16 950 at most", x.chance(), 950);
    }

    // 17
    private void chanceAt() {
        begin(SMALL);
        due("17 now", x.chanceAt(0, 0, 0), 490);
        due("17 now", x.chanceAt(0, 0, 1), 421);
        // turned once: b serves, front c d e 5 + 7 + 9, rear b a f 4 + 2 + 12
        due("17 turned", x.chanceAt(1, 0, 0), 500 + 20 + 21 + 18 - 9 - 50);
        due("17 turned", x.chanceAt(1, 5, 1), 500 + 6 + 9 - 39 - 50);
        x.move(0, 5);
        due("17 no free", x.chanceAt(0, 0, 0), 490);
        x.point(1);
        due("17 from now", x.chanceAt(0, 0, 1), 422);
        due("17 r", x.chanceAt(6, 0, 0), NONE);
        due("17 r", x.chanceAt(-1, 0, 0), NONE);
        due("17 s", x.chanceAt(0, 6, 0), NONE);
        due("17 s", x.chanceAt(0, -1, 0), NONE);
        due("17 side", x.chanceAt(0, 0, 2), NONE);
        for (int k = 0; k < 4; k++) {
            x.point(1);
        }
        due("17 over, too", x.chanceAt(0, 0, 1), 422);
    }

    // 18
    private void value() {
        begin("points 3;edge 50;" + OURS + THEIRS + STARTS);
        x.point(0);
        x.point(0);
        x.point(1);
        x.point(1);
        // n serves at 2 to 2: theirs have it by 422
        due("18 one point left", x.value(), 578000);
        x.move(0, 1);
        due("18 no free", x.value(), 578000);
        x.point(0);
        due("18 over", x.value(), 1000000);
        x.undo();
        x.point(1);
        due("18 over", x.value(), 0);
    }

    // 19
    private void valueAt() {
        begin(SMALL);
        due("19", x.valueAt(4, 4, 0, 0, 0), 490000);
        due("19", x.valueAt(4, 4, 0, 0, 1), 579000);
        due("19", x.valueAt(3, 4, 0, 0, 0), 240100);
        due("19", x.valueAt(4, 3, 0, 0, 0), 490000 + 510 * 578);
        // 421 of 579000 if theirs have it, all else ours; a 490 now
        due("19", x.valueAt(4, 3, 0, 0, 1), (421 * 579000 + 579 * 1000000) / 1000);
        due("19", x.valueAt(3, 4, 0, 0, 1), 579 * x.valueAt(4, 4, 1, 0, 0) / 1000);
        due("19 turned", x.valueAt(4, 4, 1, 0, 0), 500000);
        due("19 over", x.valueAt(5, 0, 0, 0, 0), 1000000);
        due("19 over", x.valueAt(4, 5, 0, 0, 0), 0);
        due("19 both", x.valueAt(5, 5, 0, 0, 0), NONE);
        due("19 a", x.valueAt(6, 0, 0, 0, 0), NONE);
        due("19 a", x.valueAt(-1, 0, 0, 0, 0), NONE);
        due("19 b", x.valueAt(0, 6, 0, 0, 0), NONE);
        due("19 b", x.valueAt(0, -1, 0, 0, 0), NONE);
        due("19 r", x.valueAt(0, 0, 6, 0, 0), NONE);
        due("19 s", x.valueAt(0, 0, 0, -1, 0), NONE);
        due("19 side", x.valueAt(0, 0, 0, 0, 2), NONE);
        due("19 as now", x.valueAt(0, 0, 0, 0, 0), x.value());
        x.point(1);
        due("19 from now", x.valueAt(4, 4, 0, 0, 1), 578000);
    }

    // 20
    private void table() {
        begin(SMALL);
        for (int r = 0; r < 6; r++) {
            for (int s = 0; s < 6; s++) {
                due("20 as values at first", x.table(r, s), x.valueAt(0, 0, r, s, 0));
            }
        }
        int before = x.table(1, 2);
        x.point(1);
        x.point(0);
        x.sub(0, 1, 6);
        due("20 from the start as told", x.table(1, 2), before);
        due("20 r", x.table(6, 0), NONE);
        due("20 r", x.table(-1, 0), NONE);
        due("20 s", x.table(0, 6), NONE);
        due("20 s", x.table(0, -1), NONE);
        begin(SMALL + "first theirs;");
        due("20 who serves first", x.table(4, 5), x.valueAt(0, 0, 4, 5, 1));
        Tape.tell(x, "points 3;" + OURS + THEIRS + STARTS);
        due("20 anew", x.table(4, 5), x.valueAt(0, 0, 4, 5, 0));
    }

    /** A set where ours is far better by some TURNS and theirs by others. */
    private static final String LOPSIDED = "points 3;edge 0;ours a 90 0 0;ours b 0 90 0;ours c 0 0 0;"
            + "ours d 50 0 80;ours e 0 60 0;ours f 0 0 0;theirs m 80 0 0;theirs n 0 99 0;theirs o 0 0 99;"
            + "theirs p 0 0 0;theirs q 70 0 0;theirs r 0 70 0;" + STARTS;

    // 21, 22
    private void safeAndSaddle() {
        for (String text : new String[] {LOPSIDED, SMALL, LOPSIDED + "first theirs;"}) {
            begin(text);
            int bestRow = -1;
            int leastColumn = 2000000;
            int r = 0;
            int s = 0;
            for (int k = 0; k < 6; k++) {
                int least = 2000000;
                int most = -1;
                for (int j = 0; j < 6; j++) {
                    least = Math.min(least, x.table(k, j));
                    most = Math.max(most, x.table(j, k));
                }
                r = least > bestRow ? k : r;
                bestRow = Math.max(bestRow, least);
                s = most < leastColumn ? k : s;
                leastColumn = Math.min(leastColumn, most);
            }
            due("21 r", x.safe(0, 0), r);
            due("21 row", x.safe(0, 1), bestRow);
            due("21 s", x.safe(1, 0), s);
            due("21 column", x.safe(1, 1), leastColumn);
            due("22 saddle", x.saddle(), bestRow == leastColumn ? 1 : 0);
        }
        due("21 side", x.safe(2, 0), NONE);
        due("21 what", x.safe(0, 2), NONE);
        due("21 what", x.safe(0, -1), NONE);
    }

    // 23
    private void reply() {
        begin(LOPSIDED);
        for (int t = 0; t < 6; t++) {
            int r = x.reply(0, t);
            int s = x.reply(1, t);
            for (int k = 0; k < 6; k++) {
                due("23 greatest", k < r ? x.table(k, t) < x.table(r, t) : x.table(k, t) <= x.table(r, t), true);
                due("23 least", k < s ? x.table(t, k) > x.table(t, s) : x.table(t, k) >= x.table(t, s), true);
            }
        }
        due("23 side", x.reply(2, 0), NONE);
        due("23 turns", x.reply(0, 6), NONE);
        due("23 turns", x.reply(0, -1), NONE);
    }

    // 24
    private void worth() {
        begin("points 3;edge 50;" + OURS + THEIRS + STARTS);
        x.point(0);
        x.point(0);
        x.point(1);
        x.point(1);
        due("24 ours", x.worth(0), 1000000 - 578000);
        due("24 theirs", x.worth(1), -578000);
        x.undo();
        // 2 to 1, n serves: 422 of 578000 and 578 of all
        int now = (422 * 578000 + 578 * 1000000) / 1000;
        due("24 theirs serve on", x.worth(1), 578000 - now);
        due("24 side", x.worth(2), -2000000);
        x.undo();
        // 2 to 0, a serves: behind a point of theirs 1 turned
        due("24 theirs turn", x.worth(1), now - x.value());
        x.point(0);
        due("24 over", x.worth(0), -2000000);
        begin("points 3;edge 50;first theirs;" + OURS + THEIRS + STARTS);
        x.point(1);
        x.point(1);
        // 0 to 2, m serves; behind a point of ours b serves at 1 to 2
        due("24 ours turn", x.worth(0), x.valueAt(1, 2, 1, 0, 0) - x.value());
        x.point(0);
        due("24 ours serve on", x.worth(0), x.valueAt(2, 2, 0, 0, 0) - x.value());
        due("24 a hand's worth", x.value(), 500 * (500 * 1000 / 1000));
    }

    // 25, 26
    private void ifSubAndBestSub() {
        begin("points 3;subs 2;edge 50;" + OURS + THEIRS + STARTS);
        x.point(0);
        x.point(0);
        x.point(1);
        x.point(1);
        // CHANCE of theirs is 422: a NET or BACK of ours more takes one off.
        due("25 g for a", x.ifSub(0, 0, 6), 578000 + 12000);
        due("25 g for b", x.ifSub(0, 1, 6), 578000 + 10000);
        due("25 h for a", x.ifSub(0, 0, 7), 578000 + 14000);
        due("25 not done", x.now(4), 2);
        due("25 not done", x.value(), 578000);
        due("25 no such", x.ifSub(0, 0, 9), NONE);
        due("25 -4", x.ifSub(0, 6, 7), -4);
        due("25 -5", x.ifSub(0, 0, 1), -5);
        due("26 who goes", x.bestSub(0, 0), 0);
        due("26 who comes", x.bestSub(0, 1), 7);
        due("26 value", x.bestSub(0, 2), 592000);
        // s has BACK 50 for 1, NET 50 for 2, SERVE 7 for 2: on spot 1 it is most, 54
        due("26 theirs", x.bestSub(1, 0), 1);
        due("26 theirs", x.bestSub(1, 1), 6);
        due("26 theirs", x.bestSub(1, 2), 578000 - 54000);
        due("26 what", x.bestSub(0, 3), NONE);
        due("26 what", x.bestSub(0, -1), NONE);
        due("26 side", x.bestSub(2, 0), NONE);
        x.sub(0, 0, 7);
        due("26 behind it", x.bestSub(0, 1), 6);
        x.undo();
        due("26 undone", x.bestSub(0, 1), 7);
        x.sub(1, 1, 6);
        due("26 behind it theirs", x.bestSub(1, 0), 6);
        x.undo();
        due("26 undone theirs", x.bestSub(1, 0), 1);
        x.sub(0, 0, 7);
        due("25 -6", x.ifSub(0, 7, 6), -6);
        x.sub(0, 7, 0);
        due("25 -3", x.ifSub(0, 1, 6), -3);
        due("26 none left", x.bestSub(0, 0), -2);
        x.undo();
        x.undo();
        due("26 undone", x.bestSub(0, 2), 592000);
        x.point(0);
        due("25 over", x.ifSub(0, 0, 6), -2);
        due("26 over", x.bestSub(0, 0), -2);
        due("26 over, no such what", x.bestSub(0, 3), NONE);
        begin("edge 0;ours a 1 1 1;ours b 1 1 1;ours c 1 1 1;ours d 1 1 1;ours e 1 1 1;ours f 1 1 1;"
                + "ours y 1 1 1;ours z 1 1 1;" + THEIRS + "start ours f e d c b a;start theirs m n o p q r;");
        due("26 of like ones the first who goes", x.bestSub(0, 0), 0);
        due("26 of like ones the first who comes", x.bestSub(0, 1), 6);
        int theirs = x.bestSub(1, 2);
        Tape.tell(x, "points 3;subs 0;" + OURS + THEIRS + STARTS);
        due("26 anew", x.bestSub(0, 0), -2);
        due("26 anew theirs", x.bestSub(1, 2) != theirs, true);
    }

    // 27
    private void bestMove() {
        begin(SMALL);
        due("27 serving", x.bestMove(0, 0), 5);
        due("27 serving", x.bestMove(0, 1), 570);
        due("27 none", x.bestMove(1, 0), -2);
        due("27 what", x.bestMove(0, 2), NONE);
        due("27 what", x.bestMove(0, -1), NONE);
        due("27 side", x.bestMove(2, 0), NONE);
        x.point(1);
        due("27 not serving", x.bestMove(0, 0), 1);
        due("27 not serving, the least", x.bestMove(0, 1), 422 - 88);
        x.move(0, 6);
        due("27 he is there", x.bestMove(0, 0), -2);
        x.point(1);
        x.move(0, 0);
        due("27 no point since", x.bestMove(0, 0), -2);
        x.point(1);
        x.point(1);
        due("27 again", x.bestMove(0, 0), 1);
        x.point(1);
        due("27 over", x.bestMove(0, 0), -2);
        begin("ours a 1 1 1;ours b 1 1 1;ours c 1 1 1;ours d 1 1 1;ours e 1 1 1;ours f 1 1 1;ours i 1 1 1;free i;"
                + THEIRS + STARTS);
        due("27 the first of like ones", x.bestMove(0, 0), 6);
        x.point(1);
        due("27 the first of like ones", x.bestMove(0, 0), 1);
    }

    // 28, 29, 30
    private void likelyEndsLength() {
        begin("points 3;edge 50;" + OURS + THEIRS + STARTS);
        x.point(0);
        x.point(0);
        x.point(1);
        // 2 to 1, n serves by 422
        due("28 it is there", x.likely(2, 1), 1000000);
        due("28 ours", x.likely(3, 1), 578000);
        due("28 theirs", x.likely(2, 2), 422000);
        due("28 theirs twice", x.likely(2, 3), 422 * 422);
        due("28 at last", x.likely(3, 2), 422 * 578);
        due("28 it can't", x.likely(0, 0), 0);
        due("28 it can't", x.likely(3, 0), 0);
        due("28 both", x.likely(3, 3), NONE);
        due("28 a", x.likely(4, 0), NONE);
        due("28 a", x.likely(-1, 0), NONE);
        due("28 b", x.likely(0, 4), NONE);
        due("28 b", x.likely(0, -1), NONE);
        due("29 ours", x.ends(0, 1), 578000);
        due("29 ours", x.ends(0, 2), 422 * 578);
        due("29 theirs", x.ends(1, 2), 422 * 422);
        due("29 theirs", x.ends(1, 1), 0);
        CourtSix fresh = new CourtSix();
        Tape.tell(fresh, "points 3;edge 50;" + OURS + THEIRS + STARTS);
        due("29 to nothing", fresh.ends(0, 0), 490 * 490 * 490 / 1000);
        due("29 to nothing", fresh.ends(1, 0), 510 * 422 * 422 / 1000);
        due("29 n", x.ends(0, 3), NONE);
        due("29 n", x.ends(0, -1), NONE);
        due("29 side", x.ends(2, 0), NONE);
        due("30 hundredths", x.length(), (578 * 4 + 422 * 5) / 10);
        x.point(0);
        due("28 over", x.likely(3, 1), 1000000);
        due("29 over", x.ends(0, 1), 1000000);
        due("29 over", x.ends(1, 2), 0);
        due("30 over", x.length(), 400);
    }

    // 31
    private void streak() {
        begin(SMALL);
        due("31 none", x.streak(0, 0), 1000000);
        due("31 serving", x.streak(0, 1), 490000);
        due("31 serving on", x.streak(0, 3), 490 * 490 * 490 / 1000);
        due("31 the others", x.streak(1, 1), 510000);
        due("31 the others turn", x.streak(1, 2), 510 * 422);
        due("31 downwards", x.streak(1, 3), 510L * 422 * 422 / 1000);
        x.point(1);
        due("31 ours turn", x.streak(0, 2), 578 * 500);
        x.undo();
        due("31 all", x.streak(0, 5) >= 0, true);
        due("31 beyond", x.streak(0, 6), NONE);
        due("31 below", x.streak(0, -1), NONE);
        due("31 side", x.streak(2, 0), NONE);
        x.move(0, 5);
        due("31 no free", x.streak(0, 1), 490000);
        for (int k = 0; k < 4; k++) {
            x.point(0);
        }
        due("31 one", x.streak(0, 1), 490000);
        due("31 beyond", x.streak(0, 2), NONE);
        x.point(0);
        due("31 over", x.streak(0, 0), 1000000);
        due("31 over", x.streak(1, 0), 1000000);
        due("31 over", x.streak(1, 1), NONE);
    }

    // 32, 36
    private void weakAndStrong() {
        begin(SMALL);
        // NET of the FRONT and BACK of the REAR of ours are 39 by any TURNS, f serves best.
        due("32 the least of several", x.weak(0, 0), 0);
        due("32 chance", x.weak(0, 1), 421);
        due("36 turns", x.strong(0, 0), 5);
        due("36 chance", x.strong(0, 1), 540);
        // theirs are alike but for SERVE
        due("32 theirs", x.weak(1, 0), 0);
        due("32 theirs", x.weak(1, 1), 490);
        due("36 theirs", x.strong(1, 0), 5);
        due("36 theirs", x.strong(1, 1), 426);
        x.point(1);
        due("36 from now", x.strong(1, 0), 4);
        due("32 what", x.weak(0, 2), NONE);
        due("32 what", x.weak(0, -1), NONE);
        due("32 side", x.weak(2, 0), NONE);
        due("36 what", x.strong(0, 2), NONE);
        due("36 what", x.strong(0, -1), NONE);
        due("36 side", x.strong(-1, 0), NONE);
        begin(LOPSIDED);
        // ours by TURNS: 90, 60, 60, 140, 170, 170, with SERVE 90, 0, 0, 50, 0, 0; theirs 99 and 80
        due("32 turns", x.weak(0, 0), 1);
        due("32 chance", x.weak(0, 1), 500 + 80 + 99 - 60);
        due("36 turns", x.strong(0, 0), 3);
        due("36 chance", x.strong(0, 1), 500 + 50 + 140 - 99);
    }

    // 33, 40
    private void swaps() {
        begin(LOPSIDED);
        // A SWAP of 1 and 4 of ours: the same as this text
        String swapped = LOPSIDED.replace("start ours a b c d e f", "start ours d b c a e f");
        CourtSix y = new CourtSix();
        Tape.tell(y, swapped);
        due("33 swapped", x.ifSwapped(0, 1, 4), y.table(0, 0));
        due("33 the other way round", x.ifSwapped(0, 4, 1), y.table(0, 0));
        due("33 nothing is done", x.on(0, 1), 0);
        for (int side = 0; side < 2; side++) {
            int spot = 1;
            int other = 2;
            for (int i = 1; i <= 6; i++) {
                for (int j = i + 1; j <= 6; j++) {
                    int best = x.ifSwapped(side, spot, other);
                    int now = x.ifSwapped(side, i, j);
                    if (side == 0 ? now > best : now < best) {
                        spot = i;
                        other = j;
                    }
                }
            }
            due("40 lesser", x.bestSwap(side, 0), spot);
            due("40 other", x.bestSwap(side, 1), other);
            due("40 table", x.bestSwap(side, 2), x.ifSwapped(side, spot, other));
        }
        int before = x.bestSwap(1, 2);
        x.point(1);
        due("40 of the start", x.bestSwap(1, 2), before);
        due("33 one and the same", x.ifSwapped(0, 2, 2), NONE);
        due("33 spot", x.ifSwapped(0, 0, 2), NONE);
        due("33 other", x.ifSwapped(0, 2, 7), NONE);
        due("33 side", x.ifSwapped(2, 1, 2), NONE);
        due("40 what", x.bestSwap(0, 3), NONE);
        due("40 what", x.bestSwap(0, -1), NONE);
        due("40 side", x.bestSwap(2, 0), NONE);
        Tape.tell(x, SMALL);
        for (int side = 0; side < 2; side++) {
            due("40 anew", x.bestSwap(side, 2), x.ifSwapped(side, x.bestSwap(side, 0), x.bestSwap(side, 1)));
        }
    }

    // 34
    private void strength() {
        begin(SMALL);
        due("34 net", x.strength(0, 0), 3 + 5 + 7);
        due("34 back", x.strength(0, 1), 2 + 12 + 10);
        due("34 serve", x.strength(0, 2), 10);
        due("34 theirs", x.strength(1, 0), 6);
        x.point(1);
        x.move(0, 1);
        due("34 the free's back", x.strength(0, 1), 90 + 12 + 10);
        due("34 the free's serve", x.strength(0, 2), 5);
        due("34 theirs turned", x.strength(1, 2), 2);
        due("34 what", x.strength(0, 3), NONE);
        due("34 what", x.strength(0, -1), NONE);
        due("34 side", x.strength(2, 0), NONE);
    }

    // 35
    private void together() {
        begin(SMALL);
        due("35 neighbours front", x.together(0, 0, 1, 0), 2);
        due("35 neighbours rear", x.together(0, 0, 1, 1), 2);
        due("35 over one", x.together(0, 0, 2, 0), 1);
        due("35 opposite", x.together(0, 0, 3, 1), 0);
        due("35 round", x.together(0, 0, 5, 0), 2);
        due("35 one isn't of it", x.together(0, 0, 6, 0), -2);
        due("35 one isn't of it", x.together(0, 7, 0, 0), -2);
        due("35 one and the same", x.together(0, 6, 6, 0), NONE);
        due("35 what", x.together(0, 0, 1, 2), NONE);
        due("35 what ahead of -2", x.together(0, 0, 6, -1), NONE);
        due("35 q", x.together(0, 0, 9, 0), NONE);
        due("35 p", x.together(0, -1, 1, 0), NONE);
        due("35 side", x.together(2, 0, 1, 0), NONE);
        x.move(0, 5);
        due("35 the free isn't of it", x.together(0, 0, 8, 0), -2);
        due("35 for whom he stands is", x.together(0, 4, 5, 1), 2);
    }

    // 37, 38, 39
    private void mayAndSubsNow() {
        begin(SMALL);
        due("37 can be", x.maySub(0, 0, 6), 0);
        due("37 none", x.maySub(0, 0, 9), NONE);
        due("37 -4", x.maySub(0, 6, 0), -4);
        due("37 -5", x.maySub(0, 0, 8), -5);
        due("38 can be", x.mayMove(0, 5), 0);
        due("38 -5", x.mayMove(0, 1), -5);
        due("38 -3", x.mayMove(0, 0), -3);
        due("38 none", x.mayMove(0, 4), NONE);
        due("38 nothing is done", x.count(6), 0);
        due("39 six for two", x.subsNow(0), 12);
        due("39 six for one", x.subsNow(1), 6);
        due("39 side", x.subsNow(2), NONE);
        x.sub(0, 0, 6);
        due("39 five for one, and back", x.subsNow(0), 6);
        x.move(0, 6);
        due("39 the free stands for one", x.subsNow(0), 5);
        due("38 -4", x.mayMove(0, 0), -4);
        due("37 -6", x.maySub(0, 6, 7), -6);
        x.sub(0, 6, 0);
        x.sub(0, 1, 7);
        due("37 -3", x.maySub(0, 2, 7), -3);
        due("39 none left", x.subsNow(0), 0);
        for (int k = 0; k < 5; k++) {
            x.point(0);
        }
        due("37 -2", x.maySub(1, 0, 6), -2);
        due("38 -2", x.mayMove(0, 0), -2);
        due("39 over", x.subsNow(1), 0);
    }

    // 41
    private void ranked() {
        begin(SMALL);
        int[] order = {7, 6, 8, 5, 4, 3, 2, 1, 0};
        for (int k = 0; k < order.length; k++) {
            due("41 ranked " + k, x.ranked(0, k), order[k]);
        }
        due("41 not so many", x.ranked(0, 9), -2);
        due("41 k", x.ranked(0, -1), NONE);
        due("41 side", x.ranked(2, 0), NONE);
        begin(SMALL.replace("theirs m 1 2 1", "theirs m 2 1 1"));
        due("41 s", x.ranked(1, 0), 6);
        due("41 like ones by numbers", x.ranked(1, 6), 0);
        begin(SMALL.replace("theirs m 1 2 1", "theirs m 5 2 1"));
        due("41 r", x.ranked(1, 1), 5);
        due("41 like ones by numbers", x.ranked(1, 2), 0);
        due("41 like ones by numbers", x.ranked(1, 3), 4);
    }

    // 42
    private void named() {
        begin(SMALL + "theirs zzzzzz 0 0 0;ours ab 0 0 0;");
        due("42", x.named(0, Tape.name("c")), 2);
        due("42 of the other side", x.named(1, Tape.name("c")), -2);
        due("42 the highest first", x.named(0, 1 * 32 + 2), 9);
        due("42 not the other way", x.named(0, 2 * 32 + 1), -2);
        due("42 six letters", x.named(1, Tape.name("zzzzzz")), 7);
        due("42 none", x.named(0, 0), -2);
        due("42 none", x.named(0, -1), -2);
        due("42 side", x.named(2, 1), NONE);
    }

    // 43
    private void run() {
        begin("points 25;subs 6;" + OURS + THEIRS + STARTS);
        due("43 none", x.run(0), 0);
        due("43 who", x.run(1), 0);
        due("43 none", x.run(2), 0);
        due("43 none", x.run(3), -2);
        due("43 none", x.run(4), -2);
        x.point(0);
        x.point(0);
        due("43 two", x.run(0), 2);
        x.sub(0, 0, 6);
        due("43 another one serves", x.run(0), 0);
        due("43 who", x.run(1), 6);
        x.point(0);
        due("43 his own", x.run(0), 1);
        due("43 the longest", x.run(2), 2);
        due("43 whose", x.run(3), 0);
        x.sub(0, 6, 0);
        x.point(0);
        due("43 by names, one behind another", x.run(0), 1);
        x.point(1);
        due("43 no point of who serves", x.run(0), 0);
        due("43 who", x.run(1), 1);
        x.point(1);
        x.point(1);
        due("43 of several the first", x.run(3), 0);
        due("43 of several the first", x.run(4), 0);
        x.point(1);
        due("43 longer", x.run(2), 3);
        due("43 whose", x.run(3), 1);
        due("43 of which side", x.run(4), 1);
        x.undo();
        due("43 undone", x.run(4), 0);
        due("43 what", x.run(5), NONE);
        due("43 what", x.run(-1), NONE);
    }

    // 44
    private void was() {
        begin(SMALL);
        x.point(0);
        x.point(1);
        x.point(1);
        x.point(0);
        int[][] due = {{0, 0, 0}, {1, 0, 0}, {1, 1, 1}, {0, 1, 1}};
        for (int k = 0; k < 4; k++) {
            for (int what = 0; what < 3; what++) {
                due("44 was(" + k + ", " + what + ")", x.was(k, what), due[k][what]);
            }
        }
        due("44 not so many", x.was(4, 0), -2);
        due("44 k", x.was(-1, 0), NONE);
        due("44 what", x.was(0, 3), NONE);
        due("44 what ahead of -2", x.was(9, -1), NONE);
        x.undo();
        due("44 undone", x.was(3, 0), -2);
        x.point(1);
        due("44 another one", x.was(3, 0), 1);
        begin(OURS + THEIRS + STARTS);
        for (int k = 0; k < 49; k++) {
            x.point(k % 2);
        }
        due("44 the longest set", x.now(8), 49);
        due("44 the last", x.was(48, 0), 0);
        due("44 who served the last: 24 turns", x.was(48, 2), 0);
        due("44 which one served it", x.was(48, 1), 1);
        due("44 the last but one", x.was(47, 1), 0);
        due("44 no more", x.was(49, 0), -2);
        due("43 a run of each first point", x.run(2), 1);
        due("8 over", x.point(0), -2);
    }

    // 45
    private void till() {
        begin(SMALL);
        int[] fromOne = {0, 5, 4, 3, 2, 1};
        int[] fromFour = {3, 2, 1, 0, 5, 4};
        for (int spot = 1; spot <= 6; spot++) {
            due("45 till", x.till(0, 0, spot), fromOne[spot - 1]);
            due("45 till", x.till(1, 3, spot), fromFour[spot - 1]);
        }
        due("45 isn't of it", x.till(0, 6, 1), -2);
        due("45 the free isn't", x.till(0, 8, 1), -2);
        x.move(0, 5);
        due("45 for whom he stands is", x.till(0, 4, 5), 0);
        due("45 spot", x.till(0, 0, 0), NONE);
        due("45 spot ahead of -2", x.till(0, 6, 7), NONE);
        due("45 p", x.till(0, 9, 1), NONE);
        due("45 side", x.till(2, 0, 1), NONE);
    }

    // 46
    private void count() {
        begin(SMALL);
        x.point(0);
        x.feed(0, 0, 0, 0, 0);
        int[] due = {SMALL_LINES, 5, 3, 50, 9, 7, 1, 20};
        for (int what = 0; what < due.length; what++) {
            due("46 count(" + what + ")", x.count(what), due[what]);
        }
        due("46 what", x.count(8), NONE);
        due("46 what", x.count(-1), NONE);
        x.sub(0, 0, 6);
        due("46 as told", x.count(2), 3);
    }

    /** ==== 4: what is asked changes nothing. */
    private void askingChangesNothing() {
        begin(SMALL);
        x.point(1);
        x.move(0, 6);
        String before = picture();
        x.worth(0);
        x.worth(1);
        x.ifSub(0, 0, 6);
        x.bestSub(0, 0);
        x.bestSub(1, 0);
        x.bestMove(0, 0);
        x.ifSwapped(0, 1, 2);
        x.bestSwap(1, 0);
        x.likely(3, 3);
        x.length();
        x.table(1, 1);
        x.maySub(0, 0, 6);
        x.mayMove(0, 0);
        x.strength(0, 1);
        x.chance();
        check.same("what stands behind asking", picture(), before);
    }

    private String picture() {
        StringBuilder all = new StringBuilder();
        for (int what = 0; what < 9; what++) {
            all.append(x.now(what)).append(' ').append(x.count(what)).append(' ');
        }
        for (int spot = 1; spot <= 6; spot++) {
            all.append(x.on(0, spot)).append(x.on(1, spot)).append(x.lineUp(0, spot)).append(x.lineUp(1, spot));
        }
        return all.append(' ').append(x.value()).append(' ').append(x.chance()).append(' ')
                .append(x.subsNow(0)).append(' ').append(x.subsNow(1)).append(' ').append(x.table(2, 3)).toString();
    }
}
