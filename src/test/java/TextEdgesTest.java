/** The TEXT and its FAULTS, feed(), text(), fault(), named(), count(): a test for each sentence with an edge. */
public final class TextEdgesTest extends Sheet {
    private static final String OURS = alike("ours", "abcdefg", "0 0 0");
    private static final String THEIRS = alike("theirs", "mnopqrs", "0 0 0");
    private static final String SIDES = OURS + THEIRS;
    private static final String TWELVE_OURS = alike("ours", "abcdefghijkl", "0 0 0");
    private static final String TWELVE_THEIRS = alike("theirs", "mnopqrstuvwx", "0 0 0");
    private static final String[] TAKEN = {"points", "subs", "edge", "ours", "theirs", "free", "start", "first"};

    public static void main(String[] args) {
        TextEdgesTest test = new TextEdgesTest();
        test.lines();
        test.wordsByLetters();
        test.wordsByLength();
        test.wordsThatAreTaken();
        test.numbersAreDigits();
        test.blanks();
        test.points();
        test.subs();
        test.edge();
        test.skills();
        test.twelvePlayers();
        test.numberedAsTold();
        test.freeIsToldAhead();
        test.oneFreeASide();
        test.startOfThatSide();
        test.startOfSix();
        test.startOnceASide();
        test.first();
        test.namesAreUnlike();
        test.firstAlongTheText();
        test.leastNumberOfOnePlace();
        test.tokensThatCannotStand();
        test.moreMustCome();
        test.tooMuchAtIt();
        test.toldAlready();
        test.onASpotOfThatLine();
        test.startAndFree();
        test.endWithoutStarts();
        test.nobodyPlays();
        test.nobodyPlaysBehindAFault();
        test.feedHighestFirst();
        test.feedToNineHundred();
        test.textOfSoManyBytes();
        test.textEndsWithNBytes();
        test.textOfTooManyBytes();
        test.textAnew();
        test.textWithAFault();
        test.faultOfTheLatest();
        test.named();
        test.count();
        test.check.end();
    }

    // ---- Terms: the TEXT

    private void lines() {
        says("A TEXT: { LINE ';' }");
        faultAt(4, "^");
        faultAt(1, "^;");
        faultAt(1, "points 3;^;");
        faultAt(1, "points 3^");
        faultAt(1, "points 3 ^subs 3;");
        faultAt(1, SIDES + "start ours a b c d e f;start theirs m n o p q r^");
        begin(SIDES + STARTS);
        due("lines", x.count(0), 16);
        begin(SIDES + STARTS + "points 3;subs 1;edge 1;first ours;free g;free s;");
        due("lines", x.count(0), 22);
    }

    private void wordsByLetters() {
        says("W: a word, a .. z");
        begin("ours az 1 2 3;" + SIDES + STARTS);
        due("named az", x.named(0, 1 * 32 + 26), 0);
        faultAt(1, "ours ^`a 0 0 0;");
        faultAt(1, "ours a^` 0 0 0;");
        faultAt(1, "ours ^{a 0 0 0;");
        faultAt(1, "ours z^{ 0 0 0;");
        faultAt(1, "ours ^A 0 0 0;");
        faultAt(1, "ours a^Z 0 0 0;");
        faultAt(1, "^Points 3;");
        faultAt(1, "ours ^7 0 0 0;");
        // A digit ends a word: a, and 1 is its SERVE.
        faultAt(1, "ours a1 0 0 ^0;");
    }

    private void wordsByLength() {
        says("W: of 1 .. 6 letters");
        begin("ours z 7 0 0;theirs zzzzzz 8 0 0;" + SIDES + STARTS);
        due("of one letter", x.named(0, 26), 0);
        due("of six letters", x.named(1, Tape.name("zzzzzz")), 0);
        says("a word of more letters, too: at its first");
        faultAt(1, "ours ^zzzzzzz 0 0 0;");
        faultAt(1, "ours a 0 0 0;free ^aaaaaaa;");
        faultAt(1, "^pointss 3;");
        faultAt(1, SIDES + "start ours a ^bbbbbbb c d e f;");
        faultAt(1, "points ^aaaaaaaaaaaaaaaaaaaaaaaaaaaaaaaaaaaaaaaaaaaaaaaaa;");
    }

    private void wordsThatAreTaken() {
        says("W: none of points, subs, edge, ours, theirs, free, start, first");
        for (String word : TAKEN) {
            faultAt(1, "ours ^" + word + " 0 0 0;");
            faultAt(1, "theirs ^" + word + " 0 0 0;");
            faultAt(1, SIDES + "free ^" + word + ";");
            faultAt(1, SIDES + "start ours a b c d e ^" + word + ";");
        }
        String[] near = {"point", "sub", "edges", "our", "their", "fre", "frees", "starts", "firs", "oursa"};
        StringBuilder told = new StringBuilder();
        for (String word : near) {
            told.append("ours ").append(word).append(" 0 0 0;");
        }
        faultAt(4, told + "^");
    }

    private void numbersAreDigits() {
        says("N: digits");
        begin("ours a 10 23 45;ours b 67 89 9;ours c 0 0 0;ours d 0 0 0;ours e 0 0 0;ours f 0 0 0;" + THEIRS + STARTS);
        due("10", askPlayer(0, 0, 0), 10);
        due("23", askPlayer(0, 0, 1), 23);
        due("45", askPlayer(0, 0, 2), 45);
        due("67", askPlayer(0, 1, 0), 67);
        due("89", askPlayer(0, 1, 1), 89);
        due("9", askPlayer(0, 1, 2), 9);
        faultAt(1, "points ^/;");
        faultAt(1, "points ^:;");
        faultAt(1, "points 3^/;");
        faultAt(1, "points 3^:;");
        faultAt(1, "points ^+3;");
        faultAt(1, "points ^-3;");
        faultAt(1, "points 3^.0;");
        begin("points 00000000000000000000003;" + SIDES + STARTS);
        due("zeros ahead", x.count(1), 3);
    }

    /** Any byte between the word points and the sign 3. */
    private void blanks() {
        says("Blanks 10, 32");
        for (int sign = 0; sign < 256; sign++) {
            String text = "points" + (char) sign + "3;";
            boolean blank = sign == 10 || sign == 32;
            if (blank || sign >= '0' && sign <= '2') {
                fault(4, 9, text);
            } else if (sign >= '3' && sign <= '9') {
                fault(2, 6, text);
            } else {
                fault(1, sign >= 'a' && sign <= 'z' ? 0 : 6, text);
            }
        }
        begin(" \n\n points\n3 ; subs\n\n 2\n;" + SIDES + STARTS.replace(" ", " \n ") + "\n");
        due("points", x.count(1), 3);
        due("subs", x.count(2), 2);
    }

    private void points() {
        says("points: 3 .. 25 (25 without)");
        faultAt(2, "points ^0;");
        faultAt(2, "points ^2;");
        faultAt(2, "points ^26;");
        begin("points 3;" + BLANK);
        due("points", x.count(1), 3);
        begin("points 25;" + BLANK);
        due("points", x.count(1), 25);
        begin(BLANK);
        due("without", x.count(1), 25);
    }

    private void subs() {
        says("subs: 0 .. 12 (6)");
        faultAt(2, "subs ^13;");
        begin("subs 0;" + BLANK);
        due("subs", x.count(2), 0);
        due("ours have", x.now(4), 0);
        begin("subs 12;" + BLANK);
        due("subs", x.count(2), 12);
        due("theirs have", x.now(5), 12);
        begin(BLANK);
        due("without", x.count(2), 6);
        due("ours have", x.now(4), 6);
    }

    private void edge() {
        says("edge: 0 .. 300 (100)");
        faultAt(2, "edge ^301;");
        begin("edge 0;" + BLANK);
        due("edge", x.count(3), 0);
        due("chance", x.chance(), 500);
        begin("edge 300;" + BLANK);
        due("edge", x.count(3), 300);
        due("chance", x.chance(), 200);
        begin(BLANK);
        due("without", x.count(3), 100);
        due("chance", x.chance(), 400);
    }

    private void skills() {
        says("SERVE, NET, BACK 0 .. 99 each");
        begin("ours y 0 0 0;theirs z 99 99 99;" + SIDES + STARTS);
        for (int what = 0; what < 3; what++) {
            due("least", askPlayer(0, 0, what), 0);
            due("most", askPlayer(1, 0, what), 99);
        }
        faultAt(2, "ours a ^100 0 0;");
        faultAt(2, "ours a 99 ^100 0;");
        faultAt(2, "ours a 99 99 ^100;");
        faultAt(2, "theirs a ^100 0 0;");
        faultAt(2, "theirs a 99 ^100 0;");
        faultAt(2, "theirs a 99 99 ^100;");
    }

    private void twelvePlayers() {
        says("at most 12 a SIDE");
        begin(TWELVE_OURS + TWELVE_THEIRS + STARTS);
        due("ours", x.count(4), 12);
        due("theirs", x.count(5), 12);
        due("the last one", askPlayer(1, 11, 0), 0);
        due("no more", askPlayer(1, 12, 0), OUT_OF_BOUNDS);
        says("a 13th PLAYER (at the word of the LINE)");
        faultAt(2, TWELVE_OURS + "^ours y 0 0 0;");
        faultAt(2, TWELVE_THEIRS + " ^theirs y 0 0 0;");
        faultAt(2, TWELVE_OURS + TWELVE_THEIRS + STARTS + "^theirs y 0 0 0;");
        faultAt(4, TWELVE_OURS + "theirs y 0 0 0;^");
    }

    private void numberedAsTold() {
        says("numbered on each from 0 on as they are told");
        begin("theirs x 5 0 0;ours y 6 0 0;theirs z 7 0 0;ours w 8 0 0;" + SIDES + STARTS);
        due("x", x.named(1, 24), 0);
        due("y", x.named(0, 25), 0);
        due("z", x.named(1, 26), 1);
        due("w", x.named(0, 23), 1);
        due("a", x.named(0, 1), 2);
        due("serve of z", askPlayer(1, 1, 0), 7);
        due("serve of w", askPlayer(0, 1, 0), 8);
        due("a starts", x.on(0, 1), 2);
    }

    private void freeIsToldAhead() {
        says("free: a PLAYER told ahead is FREE");
        faultAt(1, "free ^g;" + SIDES);
        faultAt(1, OURS + "free ^s;" + THEIRS);
        faultAt(1, SIDES + "free ^z;");
        faultAt(1, SIDES + "free ^7;");
        // The sign 1 is no NAME, even if a is 1 as a number.
        faultAt(1, SIDES + "free ^1;");
        begin(SIDES + "free g;" + STARTS);
        due("g", askPlayer(0, 6, 3), 1);
        due("a", askPlayer(0, 0, 3), 0);
        due("s", askPlayer(1, 6, 3), 0);
    }

    private void oneFreeASide() {
        says("FREE, one a SIDE at most");
        begin(SIDES + "free s;free g;" + STARTS);
        due("g", askPlayer(0, 6, 3), 1);
        due("s", askPlayer(1, 6, 3), 1);
        says("a second FREE of a SIDE (at the W)");
        faultAt(3, SIDES + "free g;free ^a;");
        faultAt(3, SIDES + "free g;free s;free ^s;");
        faultAt(3, SIDES + "free s;free g;free ^m;");
    }

    private void startOfThatSide() {
        says("start: PLAYERS of that SIDE told ahead");
        faultAt(1, alike("ours", "abcde", "0 0 0") + "start ours a b c d e ^f;ours f 0 0 0;");
        faultAt(1, SIDES + "start ours ^7 b c d e f;");
        faultAt(1, SIDES + "start ours ^1 b c d e f;");
        says("A W behind start is looked for on that SIDE alone");
        faultAt(1, SIDES + "start ours ^m b c d e f;");
        faultAt(1, SIDES + "start ours a b c d e ^r;");
        faultAt(1, SIDES + "start theirs m n o ^a q r;");
    }

    private void startOfSix() {
        says("on the SPOTS 1 .. 6");
        begin(SIDES + "start ours g f e d c b;start theirs n m p o r q;");
        dueEach("ours", onCourt(0), 6, 5, 4, 3, 2, 1);
        dueEach("theirs", onCourt(1), 1, 0, 3, 2, 5, 4);
        faultAt(1, SIDES + "start ours^;");
        faultAt(1, SIDES + "start ours a b c d e^;");
        faultAt(1, SIDES + "start ours a b c d e f ^g;");
        faultAt(1, SIDES + "start ^a b c d e f;");
        faultAt(1, SIDES + "start ^;");
    }

    private void startOnceASide() {
        says("a start once a SIDE (at the word ours, theirs behind it)");
        faultAt(3, SIDES + "start ours a b c d e f;start ^ours a b c d e f;");
        faultAt(3, SIDES + STARTS + "start ^theirs m n o p q r;");
        faultAt(3, SIDES + "start theirs m n o p q r;start ^theirs");
        begin(SIDES + "start theirs m n o p q r;start ours a b c d e f;");
    }

    private void first() {
        says("first, once: who serves first (without: ours)");
        begin(BLANK);
        due("without", x.now(2), 0);
        begin("first ours;" + BLANK);
        due("ours", x.now(2), 0);
        begin(BLANK + "first theirs;");
        due("theirs", x.now(2), 1);
        faultAt(3, "first theirs;^first ours;");
        faultAt(3, "first ours;^first ours;");
        faultAt(1, "first ^a;");
        faultAt(1, "first^;");
        faultAt(1, "first ^free;");
        faultAt(1, "first ours ^theirs;");
    }

    private void namesAreUnlike() {
        says("NAMES are unlike over both SIDES");
        faultAt(3, "ours a 0 0 0;ours ^a 0 0 0;");
        faultAt(3, "ours a 0 0 0;theirs ^a 0 0 0;");
        faultAt(3, "theirs abcdef 0 0 0;ours ^abcdef 0 0 0;");
        faultAt(3, "theirs a 0 0 0;theirs ^a 0 0 0;");
        faultAt(4, "theirs abcdef 0 0 0;ours abcdeg 0 0 0;ours bbcdef 0 0 0;ours abcde 0 0 0;ours bcdef 0 0 0;^");
    }

    // ---- Terms: FAULTS

    private void firstAlongTheText() {
        says("FAULTS, the first along the text");
        faultAt(2, "points ^26 x;points 3;?");
        faultAt(3, "points 3;^points 26;?");
        faultAt(1, "points 3^?points 26;");
        faultAt(2, "ours a ^100 100 100;ours a 0 0 0;");
        faultAt(3, "ours a 0 0 0;ours ^a 100 0 0;");
        faultAt(2, TWELVE_OURS + "^ours a 0 0 0;");
        faultAt(1, "ours a 0 ^x 100;");
        faultAt(1, SIDES + "free g;start ours ^z a a g;");
        faultAt(3, SIDES + "free g;start ours ^g z a a;");
        // What stands behind the first n bytes is no part of the TEXT.
        x = new CourtSix();
        Tape.feed(x, "points 25;");
        due("points 2", x.text(8), NONE);
        due("it is too much ahead of the end", x.fault(0), 2);
        due("it is too much ahead of the end", x.fault(1), 7);
    }

    private void leastNumberOfOnePlace() {
        says("of one place the least number");
        // 1 ahead of 4, both at the length
        faultAt(1, "points^");
        faultAt(1, "points 3^");
        faultAt(1, SIDES + "start ours a b c d e f^");
        // 1 ahead of 3, a word told already where it can't stand
        faultAt(1, "points 3;subs ^points 3;");
        faultAt(1, "first ours;subs ^first theirs;");
        faultAt(1, "ours a 0 0 0;^a 0 0 0;");
        faultAt(1, SIDES + "start ours a b c d e f ^a;");
        // 1 ahead of 2, a number beyond all where none can stand
        faultAt(1, "points 3 ^999;");
        faultAt(1, "^999;");
        // 1 ahead of 3: a PLAYER of the other SIDE, who is FREE there, or starts there
        faultAt(1, SIDES + "free s;start ours ^s b c d e f;");
        faultAt(1, SIDES + "start theirs m n o p q r;start ours ^m b c d e f;");
    }

    private void tokensThatCannotStand() {
        says("1 a TOKEN that is none or can't stand there");
        faultAt(1, "^?");
        faultAt(1, "  ^, points 3;");
        faultAt(1, "^x;");
        faultAt(1, "^3;");
        faultAt(1, "points ^points;");
        faultAt(1, "points ^x;");
        faultAt(1, "points ^;");
        faultAt(1, "subs ^edge;");
        faultAt(1, "edge ^x 3;");
        faultAt(1, "ours ^;");
        faultAt(1, "ours a^;");
        faultAt(1, "ours a ^b 0 0;");
        faultAt(1, "ours a 0^;");
        faultAt(1, "ours a 0 0^;");
        faultAt(1, "ours a 0 0 0 ^0;");
        faultAt(1, "ours a 0 0 0 ^ours b 0 0 0;");
        faultAt(1, "free^;");
        faultAt(1, SIDES + "free g ^s;");
        faultAt(1, "start ^points;");
        faultAt(1, "start ^free;");
    }

    private void moreMustCome() {
        says("the length, if more must come");
        String[] begun = {"points", "subs", "edge", "edge 3", "ours", "ours a", "ours a 0", "ours a 0 0", "ours a 0 0 0",
            "theirs", "free", "start", "start ours", "start theirs", "first", "first ours", SIDES + "free g",
            SIDES + "start ours a", SIDES + "start ours a b c d e", SIDES + "start ours a b c d e f"};
        for (String text : begun) {
            faultAt(1, text + "^");
            faultAt(1, text + " \n  ^");
        }
    }

    private void tooMuchAtIt() {
        says("2 too much (at it): a number beyond what is said");
        faultAt(2, "points ^1000;");
        faultAt(2, "subs ^0000000000013;");
        faultAt(2, "points ^4294967299;");
        faultAt(2, "subs ^4294967296;");
        faultAt(2, "edge ^18446744073709551616;");
        faultAt(2, "ours a ^99999999999999999999999999999 0 0;");
        faultAt(2, "points ^2");
    }

    private void toldAlready() {
        says("3 told already: points, subs, edge, first (at that word), a NAME (at it)");
        faultAt(3, "points 3; ^points 4;");
        faultAt(3, "subs 0;^subs 0;");
        faultAt(3, "edge 0;\n^edge 0;");
        faultAt(3, "first ours;^first theirs;");
        faultAt(3, "points 3;subs 0;edge 0;first ours;^subs");
        faultAt(3, "ours a 0 0 0;ours b 0 0 0;theirs ^b");
    }

    private void onASpotOfThatLine() {
        says("one who is on a SPOT of that LINE (at the W)");
        faultAt(3, SIDES + "start ours a ^a;");
        faultAt(3, SIDES + "start ours a b c d e ^a;");
        faultAt(3, SIDES + "start theirs m n o p q ^q;");
    }

    private void startAndFree() {
        says("or was told in a start and shall be FREE");
        faultAt(3, SIDES + "start ours a b c d e f;free ^f;");
        faultAt(3, SIDES + STARTS + "free ^m;");
        begin(SIDES + STARTS + "free g;free s;");
        says("or is FREE and shall start (at the W)");
        faultAt(3, SIDES + "free a;start ours ^a b c d e f;");
        faultAt(3, SIDES + "free r;start theirs m n o p q ^r;");
        begin(SIDES + "free g;" + STARTS);
    }

    private void endWithoutStarts() {
        says("4 an end without both starts (the length)");
        faultAt(4, "^");
        faultAt(4, " \n^");
        faultAt(4, SIDES + "^");
        faultAt(4, SIDES + "start ours a b c d e f;^");
        faultAt(4, SIDES + "start theirs m n o p q r; ^");
    }

    // ---- promises

    private void nobodyPlays() {
        says("Without a TEXT nobody plays: all calls answer as for no such ones");
        x = new CourtSix();
        askWithoutAText();
        due("bytes", x.count(7), 0);
    }

    private void nobodyPlaysBehindAFault() {
        says("NONE with a FAULT, all else stays");
        x = new CourtSix();
        due("a fault at the end", Tape.tell(x, SIDES + "start ours a b c d e f;start theirs m n o p q m;"), NONE);
        askWithoutAText();
        due("a sound one", Tape.tell(x, BLANK), BLANK_LINES);
        due("they play", x.value(), 488285);
    }

    private void askWithoutAText() {
        due("player", askPlayer(0, 0, 0), OUT_OF_BOUNDS);
        due("player, no such what", askPlayer(0, 0, 8), OUT_OF_BOUNDS);
        due("stand", x.stand(0, 1, 0, 0), false);
        due("worth", x.worth(0), NO_WORTH);
        dueEach("what is told", new int[] {x.point(0), x.sub(0, 0, 6), x.move(0, 5), x.undo()}, NONE, NONE, NONE, NONE);
        dueEach("who", new int[] {x.on(0, 1), x.lineUp(0, 1), x.ranked(0, 0), x.named(0, 1), x.till(0, 0, 1),
            x.together(0, 0, 1, 0)}, NONE, NONE, NONE, NONE, NONE, NONE);
        dueEach("how it stands", new int[] {x.standing(0, 1, 0), x.wrong(0, 0), x.now(0), x.now(3), x.now(8),
            x.strength(0, 0), x.run(0), x.run(2), x.was(0, 0)}, NONE, NONE, NONE, NONE, NONE, NONE, NONE, NONE, NONE);
        dueEach("chances", new int[] {x.chance(), x.chanceAt(0, 0, 0), x.bestMove(0, 0), x.weak(0, 0), x.strong(0, 0),
            x.streak(0, 0)}, NONE, NONE, NONE, NONE, NONE, NONE);
        dueEach("values", new int[] {x.value(), x.valueAt(0, 0, 0, 0, 0), x.ifSub(0, 0, 6), x.bestSub(0, 0),
            x.likely(0, 0), x.ends(0, 0), x.length()}, NONE, NONE, NONE, NONE, NONE, NONE, NONE);
        dueEach("starts", new int[] {x.table(0, 0), x.safe(0, 0), x.saddle(), x.reply(0, 0), x.ifSwapped(0, 1, 2),
            x.bestSwap(0, 0)}, NONE, NONE, NONE, NONE, NONE, NONE);
        dueEach("what may be", new int[] {x.maySub(0, 0, 6), x.mayMove(0, 5), x.subsNow(0)}, NONE, NONE, NONE);
        for (int what = -1; what < 9; what++) {
            if (what != 7) {
                due("count(" + what + ")", x.count(what), NONE);
            }
        }
    }

    private void feedHighestFirst() {
        says("Twenty bytes come behind the TAPE, four of each number, the highest first");
        x = new CourtSix();
        // "ours abcd 1 22 333;;"
        due("feed", x.feed(0x6f757273, 0x20616263, 0x64203120, 0x32322033, 0x33333b3b), 20);
        due("text", x.text(20), NONE);
        due("333 is too much", x.fault(0), 2);
        due("at it", x.fault(1), 15);
        due("feed", x.feed(-1, -1, -1, -1, -1), 20);
        due("behind it", x.feed(0, 0, 0, 0, 0), 40);
        due("text", x.text(40), NONE);
        due("a byte 255", x.fault(1), 0);
        // A byte above 127 must not spoil those that stand ahead of it in its number.
        due("feed", x.feed(0x202020ff, 0, 0, 0, 0), 20);
        due("text", x.text(20), NONE);
        due("the fourth byte", x.fault(1), 3);
        due("feed", x.feed(0x20202020, 0x80000000, 0, 0, 0), 20);
        due("text", x.text(20), NONE);
        due("the fifth byte", x.fault(1), 4);
    }

    private void feedToNineHundred() {
        says("NONE, and none come, if it would have more than 900");
        x = new CourtSix();
        Tape.feed(x, SIDES + STARTS);
        for (int size = x.count(7); size < 900; size += 20) {
            due("feed", x.feed(0x20202020, 0x20202020, 0x20202020, 0x20202020, 0x20202020), size + 20);
        }
        due("more", x.feed(-1, -1, -1, -1, -1), NONE);
        due("more", x.feed(-1, -1, -1, -1, -1), NONE);
        due("none came", x.count(7), 900);
        due("not so many", x.text(901), -2);
        due("all of them", x.text(900), 16);
        due("then it is empty", x.count(7), 0);
        due("and takes more", x.feed(0, 0, 0, 0, 0), 20);
    }

    private void textOfSoManyBytes() {
        says("The TAPE's first n bytes (it is empty then) are the TEXT: how many LINES");
        x = new CourtSix();
        Tape.feed(x, BLANK + "???");
        due("all but the last", x.text(BLANK.length()), BLANK_LINES);
        due("empty", x.count(7), 0);
        due("no byte left", x.text(1), -2);
        due("none at all", x.text(0), NONE);
        due("an end without starts", x.fault(0), 4);
        due("its place", x.fault(1), 0);
        // What an earlier TEXT left on the TAPE must not be read again.
        Tape.feed(x, "points 3;");
        due("too short", x.text(9), NONE);
        due("its place", x.fault(1), 9);
        due("a FAULT empties it too", x.count(7), 0);
    }

    private void textEndsWithNBytes() {
        says("The TAPE's first n bytes are the TEXT");
        x = new CourtSix();
        Tape.feed(x, "subss");
        due("subs", x.text(4), NONE);
        dueEach("a number must come", new int[] {x.fault(0), x.fault(1)}, 1, 4);
        Tape.feed(x, "points 255;");
        due("points 25", x.text(9), NONE);
        dueEach("a ; must come", new int[] {x.fault(0), x.fault(1)}, 1, 9);
        Tape.feed(x, "points 3; ;");
        due("points 3; and a blank", x.text(10), NONE);
        dueEach("starts must come", new int[] {x.fault(0), x.fault(1)}, 4, 10);
        for (String last : new String[] {"points", "points 3", "subs 3;points 3;", " "}) {
            x = new CourtSix();
            Tape.feed(x, " ".repeat(900 - last.length()) + last);
            due("900 bytes that end with " + last, x.text(900), NONE);
            boolean whole = last.endsWith(";") || last.endsWith(" ");
            dueEach("its end", new int[] {x.fault(0), x.fault(1)}, whole ? 4 : 1, 900);
        }
    }

    private void textOfTooManyBytes() {
        says("-2, and the TAPE stays: there are not so many, n is below 0");
        x = new CourtSix();
        due("one of none", x.text(1), -2);
        due("below 0", x.text(-1), -2);
        due("no latest one", x.fault(1), NONE);
        Tape.feed(x, BLANK);
        int bytes = x.count(7);
        due("one more", x.text(bytes + 1), -2);
        due("far more", x.text(Integer.MAX_VALUE), -2);
        due("far below", x.text(Integer.MIN_VALUE), -2);
        due("it stays", x.count(7), bytes);
        due("nobody plays", x.now(0), NONE);
        due("it is sound", x.text(bytes), BLANK_LINES);
        due("they play on", x.text(1), -2);
        due("they play on", x.now(0), 0);
    }

    private void textAnew() {
        says("are the TEXT (all anew, 0 to 0, nothing to undo)");
        begin("points 4;subs 2;edge 7;first theirs;" + BLANK);
        play("0011");
        x.sub(0, 1, 6);
        x.move(0, 6);
        x.move(1, 6);
        x.stand(0, 1, 3, 3);
        due("bestSub", x.bestSub(1, 2) >= 0, true);
        due("anew", Tape.tell(x, BLANK), BLANK_LINES);
        dueEach("now", new int[] {x.now(0), x.now(1), x.now(2), x.now(3), x.now(4), x.now(5), x.now(6), x.now(7), x.now(8)},
                0, 0, 0, 0, 6, 6, 0, 0, 0);
        dueEach("told", new int[] {x.count(0), x.count(1), x.count(2), x.count(3), x.count(6)}, BLANK_LINES, 25, 6, 100, 0);
        due("nothing to undo", x.undo(), NONE);
        dueEach("ours", onCourt(0), 0, 1, 2, 3, 4, 5);
        dueEach("theirs", onCourt(1), 0, 1, 2, 3, 4, 5);
        due("no mate", askPlayer(0, 6, 5), 2);
        due("no mate", askPlayer(0, 1, 6), -2);
        due("no points as he served", askPlayer(1, 1, 7), 0);
        due("standing", x.standing(0, 1, 0), 70);
        due("no point", x.was(0, 0), -2);
        due("no run", x.run(2), 0);
        due("a move may be", x.mayMove(0, 6), 0);
    }

    private void textWithAFault() {
        says("NONE with a FAULT, all else stays");
        begin("points 4;subs 2;edge 0;first theirs;" + BLANK);
        play("01");
        x.sub(0, 1, 6);
        due("even chances", x.table(1, 2), 500000);
        due("a fault", Tape.tell(x, "points 9;subs 9;edge 9;first ours;" + BLANK.replace("start theirs m", "start theirs u")), NONE);
        due("its number", x.fault(0), 3);
        dueEach("now", new int[] {x.now(0), x.now(1), x.now(2), x.now(3), x.now(4), x.now(5), x.now(6), x.now(7), x.now(8)},
                1, 1, 1, 0, 1, 2, 1, 1, 2);
        dueEach("told", new int[] {x.count(0), x.count(1), x.count(2), x.count(3), x.count(4), x.count(5), x.count(6)},
                BLANK_LINES + 4, 4, 2, 0, 9, 9, 3);
        due("table", x.table(1, 2), 500000);
        due("still there", x.on(0, 1), 6);
        due("the point", x.was(1, 0), 1);
        due("undo", x.undo(), 2);
        due("undone", x.on(0, 1), 1);
    }

    private void faultOfTheLatest() {
        says("Of the latest text() that was not -2");
        x = new CourtSix();
        says("ahead of any 0 and NONE");
        due("fault(0)", x.fault(0), 0);
        due("fault(1)", x.fault(1), NONE);
        says("Of the latest text() that was not -2");
        due("a fault", Tape.tell(x, "points 26;"), NONE);
        due("-2", x.text(1), -2);
        due("-2", x.text(-1), -2);
        due("fault(0)", x.fault(0), 2);
        due("fault(1)", x.fault(1), 7);
        due("another fault", Tape.tell(x, "?"), NONE);
        due("fault(0)", x.fault(0), 1);
        due("fault(1)", x.fault(1), 0);
        says("its FAULT (0), its place (NONE without)");
        due("sound", Tape.tell(x, BLANK), BLANK_LINES);
        due("fault(0)", x.fault(0), 0);
        due("fault(1)", x.fault(1), NONE);
        says("NONE for another what");
        due("fault(2)", x.fault(2), NONE);
        due("fault(-1)", x.fault(-1), NONE);
    }

    private void named() {
        says("its letters as a number (five bits each, a 1, the first one highest)");
        begin("ours ab 0 0 0;ours abc 0 0 0;theirs zzzzzz 0 0 0;theirs aaaaaa 0 0 0;" + SIDES + STARTS);
        due("a", x.named(0, 1), 2);
        due("ab", x.named(0, 34), 0);
        due("abc", x.named(0, 1091), 1);
        due("zzzzzz", x.named(1, 26 * (1 + 32 + 1024 + 32768 + 1048576 + 33554432)), 0);
        due("aaaaaa", x.named(1, 1 + 32 + 1024 + 32768 + 1048576 + 33554432), 1);
        says("-2: there is none");
        due("ba", x.named(0, 65), -2);
        due("of the other side", x.named(1, 1), -2);
        due("of the other side", x.named(0, 13), -2);
        due("no letters", x.named(0, 0), -2);
        due("below 0", x.named(0, -1), -2);
        due("a sign that is none", x.named(0, 27), -2);
        due("more than six letters", x.named(0, 0x40000001), -2);
        due("a word that is none", x.named(0, 513619), -2);
        says("NONE: no such SIDE");
        due("side 2", x.named(2, 1), NONE);
        due("side -1", x.named(-1, 1), NONE);
    }

    private void count() {
        says("0 LINES, 1 points, 2 subs, 3 edge, 4, 5 PLAYERS of a SIDE, 6 what can be undone, 7 bytes of the TAPE");
        begin("points 7;subs 3;edge 9;" + alike("ours", "abcdef", "0 0 0") + THEIRS + STARTS);
        x.stand(0, 1, 0, 0);
        x.stand(0, 1, 0, 0);
        x.feed(0, 0, 0, 0, 0);
        dueEach("count", new int[] {x.count(0), x.count(1), x.count(2), x.count(3), x.count(4), x.count(5), x.count(6), x.count(7)},
                18, 7, 3, 9, 6, 7, 2, 20);
        says("NONE for another what");
        due("count(8)", x.count(8), NONE);
        due("count(-1)", x.count(-1), NONE);
        says("of all but 7: nobody plays");
        x = new CourtSix();
        x.feed(0, 0, 0, 0, 0);
        due("bytes", x.count(7), 20);
        due("lines", x.count(0), NONE);
        due("what can be undone", x.count(6), NONE);
    }
}
