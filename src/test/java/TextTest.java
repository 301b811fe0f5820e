/** Promises 2 to 5 and 14: the tape, and the reading of plans and charts from it. */
public final class TextTest {
    private static final Check CHECK = new Check();

    public static void main(String[] args) {
        feedCounts();
        planTakesTheTape();
        planRefuses();
        plansThatStand();
        plansWithFaults();
        chartTakesTheTape();
        chartRefuses();
        chartsThatStand();
        chartsWithFaults();
        tooManyLines();
        oneTextBehindTheOther();
        faultTells();
        CHECK.end("TextTest");
    }

    private static void feedCounts() {
        DueQueue x = new DueQueue();
        for (int i = 1; i <= 25; i++) {
            CHECK.due("feed", 20 * i, x.feed(0x20202020, 0x20202020, 0x20202020, 0x20202020, 0x20202020));
        }
        CHECK.due("beyond 500", -1, x.feed(0, 0, 0, 0, 0));
        CHECK.due("nothing was done", 500, x.told(5));
        CHECK.due("all blanks", 0, x.chart(500));
        CHECK.due("the tape is empty then", 0, x.told(5));
        // Of each number the highest byte first: "drop" "less" and so on would not be read else.
        x.feed(0x64726f70, 0x37003b00, 0, 0, 0);
        CHECK.due("drop7, and a byte 0", -9, x.plan(7));
        CHECK.due("the byte 0", 5, x.fault());
        x.feed(0x64726f70, 0x203b8000, 0, 0, 0xff000000);
        CHECK.due("no number", -9, x.plan(6));
        CHECK.due("at the sign", 5, x.fault());
        x.feed(0x706f703b, 0x80000000, 0, 0, 0);
        CHECK.due("a byte above 127", -9, x.plan(5));
        CHECK.due("its place", 4, x.fault());
    }

    private static void planTakesTheTape() {
        DueQueue x = new DueQueue();
        Check.feedText(x, "push 1;push 2;push 3;push 4;");
        CHECK.due("the first 14 bytes", 2, x.plan(14));
        CHECK.due("all of the tape is gone", 0, x.told(5));
        CHECK.due("STEPS", 2, x.told(1));
        CHECK.due("a fault", -9, Check.plan(x, "push 1;push"));
        CHECK.due("the tape is gone by a fault, too", 0, x.told(5));
        CHECK.due("the PLAN stays", 2, x.told(1));
        CHECK.due("and is RUN as before", 2, x.run(1, 3));
        CHECK.due("no act", 0, x.told(6));
    }

    private static void planRefuses() {
        DueQueue x = new DueQueue();
        Check.plan(x, "pop;pop");
        for (int i = 0; i < 16; i++) {
            x.feed(0x706f703b, 0x706f703b, 0x706f703b, 0x706f703b, 0x706f703b);
        }
        CHECK.throwing("n -1", Check.ARGUMENT, () -> x.plan(-1));
        CHECK.throwing("n 301", Check.ARGUMENT, () -> x.plan(301));
        CHECK.throwing("n above the tape", Check.ARGUMENT, () -> x.plan(321));
        CHECK.throwing("n the greatest", Check.ARGUMENT, () -> x.plan(Integer.MAX_VALUE));
        CHECK.due("the tape stays", 320, x.told(5));
        CHECK.due("the fault stays", 7, x.fault());
        CHECK.due("counted", 4, x.status(1));
        CHECK.due("n 300", 75, x.plan(300));
        CHECK.throwing("an empty tape", Check.ARGUMENT, () -> x.plan(1));
        CHECK.due("n 0", 0, x.plan(0));
        CHECK.due("an empty PLAN", 0, x.told(1));
    }

    private static void planDue(String text, int want, int place) {
        DueQueue x = new DueQueue();
        Check.plan(x, "pop;pop;pop;");
        CHECK.due("plan of '" + text + "'", want, Check.plan(x, text));
        CHECK.due("fault of '" + text + "'", place, x.fault());
        CHECK.due("STEPS behind '" + text + "'", want < 0 ? 3 : want, x.told(1));
        CHECK.due("no exception by '" + text + "'", 0, x.status(1));
    }

    private static void plansThatStand() {
        planDue("   ", 0, -1);
        planDue("push0;", 1, -1);
        planDue("  push   1000000000  ;  pop ; ", 2, -1);
        planDue("push 00000000000000000000000000000000000001;", 1, -1);
        planDue("less 199 0;drop 000199;less0 0;drop0;", 4, -1);
        planDue("again 0[];", 1, -1);
        planDue("again50[again 50 [ again50[ pop ; ] ; ];];", 4, -1);
        planDue("again 2[again 2[again 2[pop;];];again 2[again 2[pop;];];];", 7, -1);
    }

    private static void plansWithFaults() {
        planDue(";", -9, 0);
        planDue("]", -9, 0);
        planDue("pop;];", -9, 4);
        planDue("5;", -9, 0);
        planDue("  popx;", -9, 2);
        planDue("Pop;", -9, 0);
        planDue("po;", -9, 0);
        planDue("pop", -9, 3);
        planDue("pop  ", -9, 5);
        planDue("pop 5;", -9, 4);
        planDue("pop;;", -9, 4);
        planDue("push", -9, 4);
        planDue("push x;", -9, 5);
        planDue("push -1;", -9, 5);
        planDue("push 5 5;", -9, 7);
        planDue("push 5a;", -9, 6);
        planDue("push 1000000001;", -8, 5);
        planDue("push 99999999999999999999999999;", -8, 5);
        planDue("push 18446744073709551617;", -8, 5);
        planDue("push 4294967297;", -8, 5);
        planDue("push 1000000001", -8, 5);
        planDue("push 10000000000;", -8, 5);
        planDue("drop 1990;", -8, 5);
        planDue("again 500[];", -8, 6);
        planDue("popz;", -9, 0);
        planDue("popa;", -9, 0);
        planDue("less 200 0;", -8, 5);
        planDue("less 5;", -9, 6);
        planDue("less 200;", -8, 5);
        planDue("less 1 1000000001;", -8, 7);
        planDue("drop 200;", -8, 5);
        planDue("drop;", -9, 4);
        planDue("again;", -9, 5);
        planDue("again 51[];", -8, 6);
        planDue("again 5;", -9, 7);
        planDue("again 5(pop;);", -9, 7);
        planDue("again 5[pop];", -9, 11);
        planDue("again 5[pop;", -9, 12);
        planDue("again 5[pop;]", -9, 13);
        planDue("again 5[pop;]pop;", -9, 13);
        planDue("again 5", -9, 7);
        planDue("again 5[", -9, 8);
        planDue("again1[again1[again1[again1[", -7, 27);
        planDue("again1[again1[again1[again1 [];];];];", -7, 28);
        planDue("again1[again1[again1[again99[];];];];", -8, 26);
        planDue("again1[again1[again1[again1;];];];", -9, 27);
        planDue("edge 0 0 0;", -9, 0);
        planDue("pop\t;", -9, 3);
    }

    private static void chartTakesTheTape() {
        DueQueue x = new DueQueue();
        Check.feedText(x, "edge 0 1 5;event A 3;rule A 1 B;edge 1 2 5;");
        CHECK.due("the first 32 bytes", 3, x.chart(32));
        CHECK.due("all of the tape is gone", 0, x.told(5));
        CHECK.due("EDGES", 1, x.told(2));
        CHECK.due("EVENTS", 1, x.told(3));
        CHECK.due("RULES", 1, x.told(4));
        CHECK.due("a fault", -9, Check.chart(x, "edge 0 1 5;edge"));
        CHECK.due("the tape is gone by a fault, too", 0, x.told(5));
        CHECK.due("the CHART stays", 1, x.told(2));
        CHECK.due("its way", 5, x.way(1, 0, 1, 0));
        CHECK.due("no PLAN by it", 0, x.told(1));
        CHECK.due("no act", 0, x.told(6));
        CHECK.due("another one", 1, Check.chart(x, "rule H 1 A;"));
        CHECK.due("no EDGES", 0, x.told(2));
        CHECK.due("no EVENTS", 0, x.told(3));
        CHECK.due("one RULE", 1, x.told(4));
    }

    private static void chartRefuses() {
        DueQueue x = new DueQueue();
        Check.chart(x, "edge 0");
        for (int i = 0; i < 25; i++) {
            x.feed(0x65646765, 0x30203020, 0x303b2020, 0x20202020, 0x20202020);
        }
        CHECK.throwing("n -1", Check.ARGUMENT, () -> x.chart(-1));
        CHECK.throwing("n 501", Check.ARGUMENT, () -> x.chart(501));
        CHECK.throwing("n the least", Check.ARGUMENT, () -> x.chart(Integer.MIN_VALUE));
        CHECK.due("the tape stays", 500, x.told(5));
        CHECK.due("the fault stays", 6, x.fault());
        CHECK.due("n 500", 25, x.chart(500));
        CHECK.throwing("n above the tape", Check.ARGUMENT, () -> x.chart(1));
        CHECK.due("the CHART stays", 25, x.told(2));
        CHECK.due("n 0", 0, x.chart(0));
        CHECK.due("an empty CHART", 0, x.told(2));
    }

    private static void chartDue(String text, int want, int place) {
        DueQueue x = new DueQueue();
        Check.chart(x, "edge 0 0 0;rule A 0 A;");
        CHECK.due("chart of '" + text + "'", want, Check.chart(x, text));
        CHECK.due("fault of '" + text + "'", place, x.fault());
        CHECK.due("LINES behind '" + text + "'", want < 0 ? 2 : want, x.told(2) + x.told(3) + x.told(4));
    }

    private static void chartsThatStand() {
        chartDue("  ", 0, -1);
        chartDue("edge0 15 1000000000;eventA0;ruleA0A;", 3, -1);
        chartDue(" edge  015  0  00 ; event  H  1 ; rule  H  2  A ; ", 3, -1);
        chartDue("rule A1B;rule B 1C;event C5;", 3, -1);
    }

    private static void chartsWithFaults() {
        chartDue("edge 16 0 0;", -8, 5);
        chartDue("edge 0 16 0;", -8, 7);
        chartDue("edge 150 0 0;", -8, 5);
        chartDue(";", -9, 0);
        chartDue("event A 1;;", -9, 10);
        chartDue("event Az 1;", -9, 6);
        chartDue("edge 0 0 1000000001;", -8, 9);
        chartDue("edge 0 0;", -9, 8);
        chartDue("edge 0 0 0", -9, 10);
        chartDue("edge 0 0 0 0;", -9, 11);
        chartDue("edge A 0 0;", -9, 5);
        chartDue("edges 0 0 0;", -9, 0);
        chartDue("event I 1;", -9, 6);
        chartDue("event a 1;", -9, 6);
        chartDue("event 1 A;", -9, 6);
        chartDue("event AA 1;", -9, 6);
        chartDue("event Aa 1;", -9, 6);
        chartDue("event AZ 1;", -9, 6);
        chartDue("event", -9, 5);
        chartDue("event A", -9, 7);
        chartDue("event A;", -9, 7);
        chartDue("event A 1000000001;", -8, 8);
        chartDue("rule A 1 ;", -9, 9);
        chartDue("rule A 1 I;", -9, 9);
        chartDue("rule A 1 Bx;", -9, 9);
        chartDue("rule A 1 B C;", -9, 11);
        chartDue("rule A B;", -9, 7);
        chartDue("rule I 1 B;", -9, 5);
        chartDue("rule A 2000000000 B;", -8, 7);
        chartDue("push 1;", -9, 0);
        chartDue("edge 0 0 0; ]", -9, 12);
    }

    private static void tooManyLines() {
        chartDue("eventA0;".repeat(12), 12, -1);
        chartDue("eventA0;".repeat(12) + "  event", -7, 98);
        chartDue("eventA0;".repeat(12) + "events", -9, 96);
        chartDue("ruleA0A;".repeat(16), 16, -1);
        chartDue("ruleA0A;".repeat(16) + "rule!", -7, 128);
        chartDue("eventA0;".repeat(12) + "ruleA0A;".repeat(16), 28, -1);
        chartDue("edge0 0 0;".repeat(50), 50, -1);
    }

    private static void oneTextBehindTheOther() {
        DueQueue x = new DueQueue();
        for (int i = 0; i < 4; i++) {
            CHECK.due("a fault within loops", -9, Check.plan(x, "pop;again 3[again 3[push 1;pop"));
            CHECK.due("a plan of two", 2, Check.plan(x, "push 4;pop;"));
            CHECK.due("two STEPS done", 2, x.run(1, 0));
            CHECK.due("a plan of one", 1, Check.plan(x, "push 4;"));
            CHECK.due("one STEP done", 1, x.run(1, 0));
            CHECK.due("it waits", 1, x.run(1, 3));
            CHECK.due("a fault in a chart", -9, Check.chart(x, "edge 0 1 1;event A 1;rule A 1 B;rule"));
            CHECK.due("a chart of three", 3, Check.chart(x, "edge 0 1 1;event A 1;rule A 1 B;"));
            CHECK.due("a chart of one", 1, Check.chart(x, "event C 1;"));
            CHECK.due("no EDGES", 0, x.told(2));
            CHECK.due("one EVENT", 1, x.told(3));
            CHECK.due("no RULES", 0, x.told(4));
        }
    }

    private static void faultTells() {
        DueQueue x = new DueQueue();
        CHECK.due("ahead of any", -1, x.fault());
        Check.plan(x, "pop;pop");
        CHECK.due("of a plan", 7, x.fault());
        Check.chart(x, "edge 99 0 0;");
        CHECK.due("of a chart", 5, x.fault());
        x.feed(1, 1, 1, 1, 1);
        CHECK.throwing("one that throws", Check.ARGUMENT, () -> x.chart(21));
        CHECK.due("does not count", 5, x.fault());
        x.chart(0);
        CHECK.due("one without a fault", -1, x.fault());
    }
}
