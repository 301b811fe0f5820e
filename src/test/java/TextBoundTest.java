/**
 * The bounds of the texts (Terms; promises 2 to 5 and 14): for each sentence that names one a test
 * of its own, at the bound and beside it. Each text is read into an object that has a plan and a
 * chart already, so that what a fault leaves can be seen.
 */
public final class TextBoundTest {
    private static final Check CHECK = new Check();
    private static final String THREE_OPEN = "again1[again1[again1[";
    private static final String THREE_SHUT = "];];];";

    public static void main(String[] args) {
        feedUpToFiveHundred();
        feedPutsTheHighestByteFirst();
        planOfTheFirstBytes();
        planOfThreeHundredBytes();
        planCountsItsSteps();
        noEmptySteps();
        planLeavesAllByAFault();
        chartOfFiveHundredBytes();
        chartLeavesAllByAFault();
        keysOfAPlan();
        itemsOfAPlan();
        timesOfALoop();
        nestedLoops();
        edgesOfAChart();
        keysOfAChart();
        lettersOfAChart();
        aLetterStandsAlone();
        linesOfEachSort();
        numbersAsManyDigitsAsStand();
        wordsAsManyLettersAsStand();
        blanksAheadOfAll();
        noOtherBlanks();
        textsThatEndTooEarly();
        theLeastByteOfSeveral();
        ofOneByteTheFirstOfTheList();
        theFaultOfTheLatest();
        CHECK.end("TextBoundTest");
    }

    private static DueQueue ready() {
        DueQueue x = new DueQueue();
        Check.plan(x, "push 5;push 6;pop;");
        Check.chart(x, "edge 0 1 9;edge 1 2 9;event A 5;rule A 4 B;");
        return x;
    }

    private static void planStands(String text, int steps) {
        DueQueue x = ready();
        CHECK.due("plan '" + text + "'", steps, Check.plan(x, text));
        CHECK.due("no FAULT of '" + text + "'", -1, x.fault());
        CHECK.due("STEPS of '" + text + "'", steps, x.told(1));
        CHECK.due("the tape is empty", 0, x.told(5));
        CHECK.due("the CHART stays", 2, x.told(2));
    }

    private static void planFaulty(String text, int fault, int place) {
        DueQueue x = ready();
        CHECK.due("plan '" + text + "'", fault - 10, Check.plan(x, text));
        CHECK.due("place of the FAULT of '" + text + "'", place, x.fault());
        CHECK.due("the PLAN stays", 3, x.told(1));
        CHECK.due("and is RUN as before", 5, x.run(1, 6));
        CHECK.due("the tape is empty", 0, x.told(5));
        CHECK.due("nothing was refused", 0, x.status(1));
    }

    private static void chartStands(String text, int edges, int events, int rules) {
        DueQueue x = ready();
        CHECK.due("chart '" + text + "'", edges + events + rules, Check.chart(x, text));
        CHECK.due("no FAULT of '" + text + "'", -1, x.fault());
        CHECK.due("EDGES of '" + text + "'", edges, x.told(2));
        CHECK.due("EVENTS of '" + text + "'", events, x.told(3));
        CHECK.due("RULES of '" + text + "'", rules, x.told(4));
        CHECK.due("the tape is empty", 0, x.told(5));
        CHECK.due("the PLAN stays", 3, x.told(1));
    }

    private static void chartFaulty(String text, int fault, int place) {
        DueQueue x = ready();
        CHECK.due("chart '" + text + "'", fault - 10, Check.chart(x, text));
        CHECK.due("place of the FAULT of '" + text + "'", place, x.fault());
        CHECK.due("EDGES stay", 2, x.told(2));
        CHECK.due("EVENTS stay", 1, x.told(3));
        CHECK.due("RULES stay", 1, x.told(4));
        CHECK.due("the WAYS stay", 18, x.way(1, 0, 2, 0));
        CHECK.due("the REPLAY stays", 2, x.replay(1, 9, 0));
        CHECK.due("the tape is empty", 0, x.told(5));
        CHECK.due("nothing was refused", 0, x.status(1));
    }

    /** "how many there are; NONE, doing nothing, if there would be more than 500" */
    private static void feedUpToFiveHundred() {
        DueQueue x = new DueQueue();
        for (int fed = 20; fed <= 480; fed += 20) {
            CHECK.due("feed", fed, x.feed(0x20202020, 0x20202020, 0x20202020, 0x20202020, 0x20202020));
        }
        CHECK.due("500", 500, Check.feedText(x, "              event "));
        CHECK.due("more than 500", -1, x.feed(-1, -1, -1, -1, -1));
        CHECK.due("more than 500, again", -1, x.feed(0, 0, 0, 0, 0));
        CHECK.due("500 still", 500, x.told(5));
        CHECK.due("nothing was done to the bytes", 1 - 10, x.chart(500));
        CHECK.due("they end behind 'event '", 500, x.fault());
        CHECK.due("there is room again", 20, x.feed(0, 0, 0, 0, 0));
    }

    /** "of each number the highest first" */
    private static void feedPutsTheHighestByteFirst() {
        DueQueue x = new DueQueue();
        // "push", " 123", "4567", "8;po", "p;  "
        x.feed(0x70757368, 0x20313233, 0x34353637, 0x383b706f, 0x703b2020);
        CHECK.due("two STEPS", 2, x.plan(20));
        CHECK.due("the KEY", 12_345_678, x.taken(1, 0, 1));
        // Bytes above 127 make a number negative; each of them is one byte.
        x.feed(0x706f703b, 0x80ff3b3b, 0, 0, 0);
        CHECK.due("the byte 128", 1 - 10, x.plan(6));
        CHECK.due("its place", 4, x.fault());
        x.feed(0x706f703b, 0x20ff3b3b, 0, 0, 0);
        CHECK.due("the byte 255", 1 - 10, x.plan(6));
        CHECK.due("its place", 5, x.fault());
    }

    /** "The first n bytes of the TAPE (empty then) are the PLAN" */
    private static void planOfTheFirstBytes() {
        String text = "pop;pop; pop;  pop;?";
        int[] steps = {0, -9, -9, -9, 1, -9, -9, -9, 2, 2, -9, -9, -9, 3, 3, 3, -9, -9, -9, 4, -9};
        // A word that is cut off is a word that can't stand there; behind a whole one ";" is missing.
        int[] places = {-1, 0, 0, 3, -1, 4, 4, 7, -1, -1, 9, 9, 12, -1, -1, -1, 15, 15, 18, -1, 19};
        for (int n = 0; n <= 20; n++) {
            DueQueue x = ready();
            Check.feedText(x, text);
            CHECK.due("the first " + n, steps[n], x.plan(n));
            CHECK.due("the FAULT of the first " + n, places[n], x.fault());
            CHECK.due("STEPS", steps[n] < 0 ? 3 : steps[n], x.told(1));
            CHECK.due("the TAPE is empty then", 0, x.told(5));
        }
    }

    /** "A PLAN is a text of up to 300 bytes" */
    private static void planOfThreeHundredBytes() {
        DueQueue x = ready();
        Check.feedText(x, "pop;".repeat(75) + "pop;pop;pop;pop;pop;");
        CHECK.throwing("301", Check.ARGUMENT, () -> x.plan(301));
        CHECK.due("it stays", 320, x.told(5));
        CHECK.due("300", 75, x.plan(300));
        CHECK.due("75 STEPS done", 75, x.run(1, 0));
        DueQueue y = ready();
        Check.feedText(y, "pop;".repeat(75));
        CHECK.due("299", 1 - 10, y.plan(299));
        CHECK.due("the FAULT at 299", 299, y.fault());
    }

    /** "how many STEPS it has as it is written ("again" ones, too)" */
    private static void planCountsItsSteps() {
        planStands("", 0);
        planStands("pop;", 1);
        planStands("again 0[];", 1);
        planStands("again 50[pop;];", 2);
        planStands("again 0[pop;pop;];pop;", 4);
        planStands("again 2[again 2[again 2[pop;];];];", 4);
        planStands("again1[];".repeat(33), 33);
    }

    /** "{ STEP ";" }", "{ LINE ";" }": as many as there are, also none, but no ";" by itself */
    private static void noEmptySteps() {
        planFaulty(";", 1, 0);
        planFaulty("pop;;", 1, 4);
        planFaulty("pop; ;pop;", 1, 5);
        planFaulty("again 2[;];", 1, 8);
        planFaulty("again 2[pop;;];", 1, 12);
        planFaulty("again 2;", 1, 7);
        planFaulty("again 2[pop;];;", 1, 14);
        planFaulty("];", 1, 0);
        chartFaulty(";", 1, 0);
        chartFaulty("event A 1;;", 1, 10);
        chartFaulty(" ;event A 1;", 1, 1);
        chartFaulty("event A 1;]", 1, 10);
    }

    /** "or the FAULT less 10 (all but the TAPE stays)" */
    private static void planLeavesAllByAFault() {
        DueQueue x = ready();
        x.push(0, 4);
        long print = x.print();
        CHECK.due("a FAULT behind sound STEPS", 1 - 10, Check.plan(x, "push 9;again 3[push 8;pop;];x"));
        CHECK.due("the PLAN", 3, x.told(1));
        CHECK.due("its RUN", 3, x.run(1, 0));
        CHECK.due("its LAST", 5, x.run(1, 6));
        CHECK.due("the QUEUES", print, x.print());
        CHECK.due("the ACTS", 1, x.told(6));
        CHECK.due("the CHART", 2, x.told(2));
        CHECK.due("the TAPE", 0, x.told(5));
        CHECK.due("an empty PLAN takes its place", 0, x.plan(0));
        CHECK.due("no STEPS", 0, x.run(1, 0));
    }

    /** "A CHART is a text of up to 500 bytes" */
    private static void chartOfFiveHundredBytes() {
        DueQueue x = ready();
        Check.feedText(x, "edge0 1 1;".repeat(50));
        CHECK.throwing("501", Check.ARGUMENT, () -> x.chart(501));
        CHECK.due("it stays", 500, x.told(5));
        CHECK.due("500", 50, x.chart(500));
        DueQueue y = ready();
        Check.feedText(y, "edge0 1 1;".repeat(50));
        CHECK.due("499", 1 - 10, y.chart(499));
        CHECK.due("the FAULT at 499", 499, y.fault());
        CHECK.due("the CHART stays", 2, y.told(2));
        chartStands("", 0, 0, 0);
        chartStands(" ", 0, 0, 0);
    }

    private static void chartLeavesAllByAFault() {
        chartFaulty("edge 3 4 5;event B 1;rule B 1 C;x", 1, 32);
        chartFaulty("edge 0 2 1;edge 0 2 ;", 1, 20);
        DueQueue x = ready();
        CHECK.due("an empty CHART takes its place", 0, x.chart(0));
        CHECK.due("no EDGES", 0, x.told(2));
        CHECK.due("no EVENTS", 0, x.told(3));
        CHECK.due("no RULES", 0, x.told(4));
    }

    /** "K: 0 to 1,000,000,000.", in plans, too */
    private static void keysOfAPlan() {
        planStands("push 0;", 1);
        planStands("push 1000000000;", 1);
        planFaulty("push 1000000001;", 2, 5);
        planFaulty("push 9999999999;", 2, 5);
        planFaulty("push 1099511627775;", 2, 5);
        planStands("less 0 0;", 1);
        planStands("less 0 1000000000;", 1);
        planFaulty("less 0 1000000001;", 2, 7);
        DueQueue x = ready();
        Check.plan(x, "push 1000000000;push 999999999;pop;pop;");
        CHECK.due("one less", 999_999_999, x.taken(1, 0, 1));
        CHECK.due("the greatest K", 1_000_000_000, x.taken(1, 1, 1));
    }

    /** "I: an ITEM 0 to 199." */
    private static void itemsOfAPlan() {
        planStands("less 0 5;drop 0;", 2);
        planStands("less 199 5;drop 199;", 2);
        planFaulty("less 200 5;", 2, 5);
        planFaulty("drop 200;", 2, 5);
        planFaulty("drop 4294967296;", 2, 5);
        planFaulty("less 18446744073709551616 5;", 2, 5);
    }

    /** ""again" N .. (N 0 to 50)" */
    private static void timesOfALoop() {
        int[] times = {0, 1, 49, 50};
        for (int n : times) {
            DueQueue x = ready();
            CHECK.due("again " + n, 2, Check.plan(x, "again " + n + "[pop;];"));
            CHECK.due("so many STEPS done", n, x.run(1, 0));
        }
        planFaulty("again 51[pop;];", 2, 6);
        planFaulty("again 100[pop;];", 2, 6);
        planFaulty("again [pop;];", 1, 6);
    }

    /** "a fourth "[" within three others" */
    private static void nestedLoops() {
        planStands(THREE_OPEN + "pop;" + THREE_SHUT, 4);
        planStands(THREE_OPEN + THREE_SHUT + "again1[pop;];" + THREE_OPEN + THREE_SHUT, 8);
        planStands("again1[];again1[];again1[];again1[];again1[];", 5);
        planStands("again1[again1[again1[];again1[];];again1[again1[];];];", 6);
        planFaulty(THREE_OPEN + "again1[];" + THREE_SHUT, 3, 27);
        planFaulty(THREE_OPEN + "pop;again1  [", 3, 33);
        planFaulty(THREE_OPEN + "];again1[again1[", 3, 36);
        planFaulty(THREE_OPEN + "again1", 1, 27);
        planFaulty(THREE_OPEN + "again1]", 1, 27);
        planFaulty(THREE_OPEN + "pop[", 1, 24);
        planFaulty(THREE_OPEN + "[", 1, 21);
        planFaulty(THREE_OPEN + THREE_SHUT + "];", 1, 27);
    }

    /** ""edge" N N K (from a NODE 0 to 15 to a NODE; how far ..)" */
    private static void edgesOfAChart() {
        chartStands("edge 0 0 0;edge 15 15 0;edge 0 15 0;edge 15 0 0;", 4, 0, 0);
        chartFaulty("edge 16 0 0;", 2, 5);
        chartFaulty("edge 0 16 0;", 2, 7);
        chartFaulty("edge 99 99 0;", 2, 5);
        chartFaulty("edge 15 16 1000000001;", 2, 8);
        DueQueue x = ready();
        Check.chart(x, "edge 15 0 3;edge 0 15 4;");
        CHECK.due("from 15 to 0", 3, x.way(1, 15, 0, 0));
        CHECK.due("from 0 to 15", 4, x.way(1, 0, 15, 0));
    }

    /** "K: 0 to 1,000,000,000." */
    private static void keysOfAChart() {
        chartStands("edge 0 1 0;event A 0;rule A 0 A;", 1, 1, 1);
        chartStands("edge 0 1 1000000000;event A 1000000000;rule A 1000000000 A;", 1, 1, 1);
        chartFaulty("edge 0 1 1000000001;", 2, 9);
        chartFaulty("event A 1000000001;", 2, 8);
        chartFaulty("rule A 1000000001 A;", 2, 7);
        DueQueue x = ready();
        Check.chart(x, "edge 0 1 1000000000;event A 1000000000;rule A 1000000000 B;");
        CHECK.due("the farthest", 1_000_000_000, x.way(1, 0, 1, 0));
        CHECK.due("the latest", 1_000_000_000, x.happened(1, 2_000_000_000L, 0, 1));
        CHECK.due("the latest that is brought", 2_000_000_000L, x.happened(1, 2_000_000_000L, 1, 1));
    }

    /** "E: a capital letter A to H" */
    private static void lettersOfAChart() {
        for (char e = 'A'; e <= 'H'; e++) {
            DueQueue x = ready();
            Check.chart(x, "event " + e + " 3;rule " + e + " 2 A;rule A 1 " + e + ";");
            CHECK.due("which one", e - 'A', x.happened(1, 3, 0, 0));
            CHECK.due("the one that it brings", 0, x.happened(1, 5, 1, 0));
        }
        for (char none : new char[] {'@', 'I', 'Z', 'a', 'h', '0', '[', (char) ('A' + 128)}) {
            chartFaulty("event " + none + " 3;", 1, 6);
            chartFaulty("rule " + none + " 3 A;", 1, 5);
            chartFaulty("rule A 3 " + none + ";", 1, 9);
        }
    }

    /** ".. alone (no other letter right behind it)" */
    private static void aLetterStandsAlone() {
        for (char letter : new char[] {'A', 'B', 'H', 'I', 'Z', 'a', 'h', 'z'}) {
            chartFaulty("event A" + letter + " 3;", 1, 6);
            chartFaulty("rule A" + letter + " 3 A;", 1, 5);
            chartFaulty("rule A 3 B" + letter + ";", 1, 9);
        }
        // What is no letter can't stand there, either, but the FAULT is its own.
        for (char sign : new char[] {'@', '[', '`', '{', ';', (char) 200}) {
            chartFaulty("event A" + sign + " 3;", 1, 7);
        }
        chartStands("event A3;rule A3B;", 0, 1, 1);
        chartStands("rule A 3 B;", 0, 0, 1);
        chartFaulty("event A B;", 1, 8);
        chartFaulty("rule A 3 B3;", 1, 10);
        chartFaulty("event A", 1, 7);
    }

    /** "60 EDGES at most", "12 at most", "16 at most"; "a LINE too many of its sort (by its word)" */
    private static void linesOfEachSort() {
        // 500 bytes hold no more than 50 edges: the bound of 60 can't be gone beyond.
        chartStands("edge0 1 1;".repeat(50), 50, 0, 0);
        chartStands("eventA0;".repeat(11), 0, 11, 0);
        chartStands("eventA0;".repeat(12), 0, 12, 0);
        chartFaulty("eventA0;".repeat(13), 3, 96);
        chartFaulty("eventA0;".repeat(12) + "  eventA0;", 3, 98);
        chartStands("ruleA0A;".repeat(15), 0, 0, 15);
        chartStands("ruleA0A;".repeat(16), 0, 0, 16);
        chartFaulty("ruleA0A;".repeat(17), 3, 128);
        chartStands("eventA0;".repeat(12) + "ruleA0A;".repeat(16) + "edge0 1 1;".repeat(27), 27, 12, 16);
        chartFaulty("eventA0;".repeat(12) + "ruleA0A;".repeat(16) + "eventA0;", 3, 224);
        chartFaulty("eventA0;".repeat(12) + "ruleA0A;".repeat(16) + "ruleA0A;", 3, 224);
        chartFaulty("ruleA0A;eventA0;".repeat(12) + "eventA0;", 3, 192);
        // By its word: whatever comes behind it.
        chartFaulty("eventA0;".repeat(12) + "event", 3, 96);
        chartFaulty("eventA0;".repeat(12) + "event I 3;", 3, 96);
        chartFaulty("ruleA0A;".repeat(16) + "rule;", 3, 128);
        chartFaulty("eventA0;".repeat(12) + "eventx", 1, 96);
        chartFaulty("eventA0;".repeat(12) + "even", 1, 96);
    }

    /** "Numbers: digits, as many as stand there" */
    private static void numbersAsManyDigitsAsStand() {
        planStands("drop 199;", 1);
        planFaulty("drop 1990;", 2, 5);
        planStands("drop 0199;", 1);
        planStands("push " + "0".repeat(200) + "1000000000;", 1);
        planFaulty("push " + "0".repeat(200) + "1000000001;", 2, 5);
        planFaulty("push " + "9".repeat(280) + ";", 2, 5);
        planFaulty("push 1" + "0".repeat(19) + ";", 2, 5);
        // Beyond int and long: what would be 1 and 0 if it were wrapped around.
        planFaulty("push 4294967297;", 2, 5);
        planFaulty("push 18446744073709551617;", 2, 5);
        planFaulty("push 18446744073709551616;", 2, 5);
        planStands("push0;less0 0;drop0;again0[];", 4);
        planFaulty("push 1 0;", 1, 7);
        planFaulty("less 10;", 1, 7);
        // The signs beside the digits are none.
        planFaulty("push /;", 1, 5);
        planFaulty("push :;", 1, 5);
        planFaulty("push 5/;", 1, 6);
        planFaulty("push 5:;", 1, 6);
        planFaulty("push +5;", 1, 5);
        planFaulty("push -5;", 1, 5);
        planStands("push 0123456789;", 1);
    }

    /** "words: small letters as many as stand there" */
    private static void wordsAsManyLettersAsStand() {
        planFaulty("popa;", 1, 0);
        planFaulty("popz;", 1, 0);
        planFaulty("poppop;", 1, 0);
        planFaulty("po p;", 1, 0);
        planFaulty("a;", 1, 0);
        planFaulty("pushpop;", 1, 0);
        planFaulty("lessa 1 1;", 1, 0);
        planFaulty("again1[pops;];", 1, 7);
        // A sign beside the small letters ends the word; it has a FAULT of its own.
        planFaulty("pop`;", 1, 3);
        planFaulty("pop{;", 1, 3);
        planFaulty("popA;", 1, 3);
        planFaulty("pop5;", 1, 3);
        planFaulty("Pop;", 1, 0);
        planFaulty("edge 0 1 1;", 1, 0);
        chartFaulty("edges 0 1 1;", 1, 0);
        chartFaulty("edg 0 1 1;", 1, 0);
        chartFaulty("edgeA 0 1 1;", 1, 4);
        chartFaulty("eventa 3;", 1, 0);
        chartFaulty("pop;", 1, 0);
        chartStands("edge0 1 1;eventA3;ruleA3A;", 1, 1, 1);
    }

    /** "blanks (32) may stand ahead of all these and of all signs, and at the end" */
    private static void blanksAheadOfAll() {
        planStands("  push  5  ;  pop  ;  less  0  0  ;  drop  0  ;  ", 4);
        planStands(" again  2  [  again  2  [  ]  ;  pop  ;  ]  ;  ", 3);
        planStands("push5;pop;less0 0;drop0;again2[];", 5);
        planStands(" ".repeat(300), 0);
        planStands(" ".repeat(296) + "pop;", 1);
        chartStands("  edge  0  1  9  ;  event  A  5  ;  rule  A  4  B  ;  ", 1, 1, 1);
        chartStands(" ".repeat(500), 0, 0, 0);
        chartStands(" ".repeat(492) + "eventA0;", 0, 1, 0);
    }

    private static void noOtherBlanks() {
        for (char sign : new char[] {0, 9, 10, 13, 31, 33, 127, 160, 255}) {
            planFaulty(sign + "pop;", 1, 0);
            planFaulty("pop" + sign + ";", 1, 3);
            planFaulty("pop;" + sign, 1, 4);
            chartFaulty("event A 1;" + sign, 1, 10);
        }
    }

    /** "(at the length, if the text ends too early)" */
    private static void textsThatEndTooEarly() {
        for (String text : new String[] {"pop", "push", "push 5", "less", "less 5", "less 5 5", "drop",
            "drop 5", "again", "again 5", "again 5[", "again 5[pop", "again 5[pop;", "again 5[pop;]",
            THREE_OPEN, THREE_OPEN + "]", THREE_OPEN + "];]", THREE_OPEN + "];];]"}) {
            planFaulty(text, 1, text.length());
            planFaulty(text + " ", 1, text.length() + 1);
            planFaulty("pop;" + text + "  ", 1, text.length() + 6);
        }
        for (String text : new String[] {"edge", "edge 0", "edge 0 1", "edge 0 1 9", "event", "event A",
            "event A 1", "rule", "rule A", "rule A 1", "rule A 1 B"}) {
            chartFaulty(text, 1, text.length());
            chartFaulty(text + " ", 1, text.length() + 1);
            chartFaulty("event A 1;" + text + "  ", 1, text.length() + 12);
        }
    }

    /** "of several the one whose first byte is least" */
    private static void theLeastByteOfSeveral() {
        planFaulty("push 1000000001;x", 2, 5);
        planFaulty("pop x;push 1000000001;", 1, 4);
        planFaulty("less 200 1000000001;", 2, 5);
        planFaulty("less 200;", 2, 5);
        planFaulty("push 1000000001", 2, 5);
        planFaulty(THREE_OPEN + "again51[", 2, 26);
        planFaulty(THREE_OPEN + "again1[push x;", 3, 27);
        planFaulty("again 51", 2, 6);
        chartFaulty("edge 16 16 1000000001;", 2, 5);
        chartFaulty("event A 1000000001", 2, 8);
        chartFaulty("event I 1000000001;", 1, 6);
        chartFaulty("rule A 1000000001 I;", 2, 7);
        chartFaulty("eventA0;".repeat(12) + "event A 1000000001;", 3, 96);
        chartFaulty("x" + "eventA0;".repeat(13), 1, 0);
    }

    /** "of one byte the first in this list": a number that is none such where none can stand */
    private static void ofOneByteTheFirstOfTheList() {
        planFaulty("99999999999;", 1, 0);
        planFaulty("pop 99999999999;", 1, 4);
        planFaulty("push 5 99999999999;", 1, 7);
        planFaulty("again 5 51[];", 1, 8);
        chartFaulty("event 99999999999;", 1, 6);
        chartFaulty("edge 0 1 2 99999999999;", 1, 11);
        chartFaulty("rule A 1 99999999999;", 1, 9);
    }

    /** "The place of the FAULT of the latest plan(), chart() that threw nothing; NONE without one" */
    private static void theFaultOfTheLatest() {
        DueQueue x = new DueQueue();
        CHECK.due("ahead of any", -1, x.fault());
        CHECK.throwing("one that throws", Check.ARGUMENT, () -> x.plan(1));
        CHECK.due("ahead of any that threw nothing", -1, x.fault());
        CHECK.due("a FAULT at 0", 1 - 10, Check.plan(x, ";"));
        CHECK.due("place 0", 0, x.fault());
        CHECK.throwing("a plan() that throws", Check.ARGUMENT, () -> x.plan(1));
        CHECK.throwing("a chart() that throws", Check.ARGUMENT, () -> x.chart(-1));
        CHECK.due("place 0 still", 0, x.fault());
        CHECK.due("a chart() without one", 0, x.chart(0));
        CHECK.due("NONE", -1, x.fault());
        CHECK.due("a FAULT of a chart()", 2 - 10, Check.chart(x, "edge 16"));
        CHECK.due("its place", 5, x.fault());
        CHECK.due("a plan() without one", 1, Check.plan(x, "pop;"));
        CHECK.due("NONE again", -1, x.fault());
        CHECK.due("a FAULT at the length", 1 - 10, Check.chart(x, " ".repeat(495) + "event"));
        CHECK.due("500", 500, x.fault());
    }
}
