/** For each promise what the document asks: ordinary numbers, the edges that it names, and wrong numbers. */
public final class PromiseTest {
    static final long NO = Long.MIN_VALUE;
    static int wrong = 0, promise = 0, due = 0;
    static DrunkByYear x;

    static void is(long got, long want) {
        due++;
        if (got != want) {
            wrong++;
            StackTraceElement at = new Throwable().getStackTrace()[1];
            System.out.println("promise " + promise + ", line " + at.getLineNumber() + ": " + got + ", due is " + want);
        }
    }

    static void begin(int n) {
        promise = n;
        x = new DrunkByYear();
    }

    static void feedAll(String text) {
        for (int i = 0; i < text.length(); i++) {
            x.feed(text.charAt(i));
        }
    }

    static int village(String text) {
        feedAll(text);
        return x.village();
    }

    /** What a text answers as the first village. */
    static int firstVillage(String text) {
        x = new DrunkByYear();
        return village(text);
    }

    /** One of each kind, BORN 60 but for number 5 and with v 3; vintages of 50, 85 and 131. */
    static void folk() {
        for (int kind = 0; kind <= 5; kind++) {
            x.person(kind, 3, 60, 90);
        }
        x.vintage(50, 2);
        x.vintage(85, 1);
        x.vintage(131, 3);
    }

    static void p1() {
        begin(1);
        for (int what = 0; what <= 7; what++) {
            is(x.count(what), 0);
        }
        is(x.told(0), 100);
        is(x.of(0, 0), -10001);
        is(x.wine(0, 0), -1);
        is(x.undo(), -3);
        is(x.trace(0), -1);
        is(x.two(), -5);
        is(x.alive(0), 0);
        is(DrunkByYear.NONE, -1);
        is(DrunkByYear.BAD, -2);
        is(DrunkByYear.STATE, -3);
        is(DrunkByYear.FULL, -4);
        is(DrunkByYear.NO, NO);
    }

    static void p2() {
        begin(2);
        is(x.feed(0), 1);
        is(x.feed(127), 2);
        is(x.feed(-1), -2);
        is(x.feed(128), -2);
        is(x.count(5), 2);
        for (int i = 3; i <= 100; i++) {
            is(x.feed('p'), i);
        }
        is(x.feed('p'), -4);
        is(x.feed(128), -2);
        is(x.count(5), 100);
    }

    static void p3() {
        begin(3);
        is(village("grown 21;old 55;bold 9 k=1|a>3;meek 6 h<9&!(p=2)"), 0);
        is(x.count(5), 0);
        is(village("old 7"), 1);
        is(x.told(1), 18);
        is(x.told(2), 7);
        is(village("old 8;"), -16);
        is(x.count(5), 0);
        is(x.count(1), 2);
        is(x.told(2), 7);
        is(village("old 1;old 2;grown 3;grown 4"), 2);
        is(x.told(2), 2);
        is(x.told(1), 4);
        is(village("old 3"), 3);
        is(village("old 4"), 4);
        feedAll("x");
        is(x.village(), -4);
        is(x.count(5), 1);
        is(x.told(2), 4);
        is(x.feed('y'), 2);
        faultsOfWords();
        faultsOfExpressions();
        limitsOfVillages();
    }

    static void faultsOfWords() {
        is(firstVillage(""), -10);
        is(firstVillage("x"), -10);
        is(firstVillage("Grown 1"), -10);
        is(firstVillage(" old 1"), -10);
        is(firstVillage("grovn 1"), -13);
        is(firstVillage("grown1"), -15);
        is(firstVillage("grown  1"), -16);
        is(firstVillage("grown"), -15);
        is(firstVillage("grown "), -16);
        is(firstVillage("grown 0"), 0);
        is(firstVillage("grown 07"), -17);
        is(firstVillage("grown 70"), 0);
        is(firstVillage("grown 700"), -18);
        is(firstVillage("grown 7 "), -17);
        is(firstVillage("old -1"), -14);
        is(firstVillage("old /"), -14);
        is(firstVillage("old :"), -14);
        is(firstVillage("old 1/"), -15);
        is(firstVillage("old 1:"), -15);
        is(firstVillage("old 1;;old 2"), -16);
        is(firstVillage("old 1; old 2"), -16);
        is(firstVillage(";old 1"), -10);
        is(firstVillage("bold 1"), -16);
        is(firstVillage("bold 1;"), -16);
        is(firstVillage("bold 1 "), -17);
        is(firstVillage("bolt 1 p=1"), -13);
        is(firstVillage("meek 5  p=1"), -17);
        is(firstVillage("mek"), -12);
    }

    static void faultsOfExpressions() {
        is(firstVillage("bold 1 p=1"), 0);
        is(firstVillage("bold 1 p<0|k>99&v=9"), 0);
        is(firstVillage("bold 1 q=1"), -17);
        is(firstVillage("bold 1 p1"), -18);
        is(firstVillage("bold 1 p<=1"), -19);
        is(firstVillage("bold 1 p=01"), -20);
        is(firstVillage("bold 1 p=100"), -21);
        is(firstVillage("bold 1 p=1|"), -21);
        is(firstVillage("bold 1 p=1||p=2"), -21);
        is(firstVillage("bold 1 p=1&&p=2"), -21);
        is(firstVillage("bold 1 (p=1"), -21);
        is(firstVillage("bold 1 p=1)"), -20);
        is(firstVillage("bold 1 ()"), -18);
        is(firstVillage("bold 1 !"), -18);
        is(firstVillage("bold 1 p=1!"), -20);
        is(firstVillage("bold 1 p=1 |p=2"), -20);
        is(firstVillage("bold 1 (((((p=1)))))"), 0);
        is(firstVillage("bold 1 ((((((p=1))))))"), -22);
        is(firstVillage("bold 1 !!!!!p=1"), 0);
        is(firstVillage("bold 1 !(!(!p=1))"), 0);
        is(firstVillage("bold 1 !(!(!(p=1)))"), -22);
        is(firstVillage("bold 1 !p=1&!p=2|!p=3&!p=4|!p=5&!p=6&!p=7"), 0);
        is(firstVillage("bold 1 !!!!!p=1&!!!!!p=1|(((((p=1)))))"), 0);
        is(firstVillage("bold 1 !!!!(p=1&!p=2)"), -26);
    }

    static void limitsOfVillages() {
        String nine = "old 1;old 1;old 1;old 1;old 1;old 1;old 1;old 1;old 1";
        is(firstVillage(nine + ";old 2"), 0);
        is(x.told(2), 2);
        is(firstVillage(nine + ";old 2;old 3"), -69);
        is(firstVillage(nine + ";bold 5 p=0|p=1|p=2|p=3|p=4|p=5|p=6|p=7|p=8|p=9"), 0);
        String hundred = "bold 10 p=0|p=1|p=2|p=3|p=4|p=5|p=6|p=7|p=8|p=9|p=0|p=1|p=2|p=3|p=4|p=5|p=6|p=7|p=8|p=9|p=0|p=1|p=77";
        is(hundred.length(), 100);
        is(firstVillage(hundred), 0);
        is(firstVillage(hundred.substring(0, 99) + "|"), -110);
        x = new DrunkByYear();
        x.person(0, 0, 60, 90);
        for (int i = 0; i < 3; i++) {
            is(village(hundred.substring(0, 99) + "|"), -110);
        }
        is(village("bold 7 p=1|p=2|p=3|p=4|p=5;bold 5 p=0"), 0);
        is(x.of(0, 8), 15);
        x = new DrunkByYear();
        x.feed(0);
        is(x.village(), -10);
        feedAll("old 1");
        x.feed(0);
        is(x.village(), -15);
    }

    static void p4() {
        begin(4);
        is(x.person(-1, 0, 0, 0), -1);
        is(x.person(7, 10, 0, 0), -1);
        is(x.person(0, -1, 0, 0), -2);
        is(x.person(0, 10, 0, 0), -2);
        is(x.person(0, 0, -1, 0), -2);
        is(x.person(0, 0, 200, 0), -2);
        is(x.person(0, 0, 0, -1), -2);
        is(x.person(0, 0, 0, 121), -2);
        is(x.count(0), 0);
        is(x.person(0, 0, 0, 0), 0);
        is(x.person(6, 9, 199, 120), 1);
        for (int p = 2; p <= 5; p++) {
            is(x.person(p, 1, 1, 1), p);
        }
        is(x.person(0, 0, 0, 0), -4);
        is(x.person(7, 0, 0, 0), -1);
        is(x.person(0, 10, 0, 0), -2);
        is(x.count(0), 6);
    }

    static void p5() {
        begin(5);
        is(x.vintage(-1, 0), -2);
        is(x.vintage(200, 0), -2);
        is(x.vintage(0, -1), -2);
        is(x.vintage(0, 100), -2);
        is(x.vintage(0, 0), 0);
        is(x.vintage(199, 99), 1);
        for (int w = 2; w <= 4; w++) {
            is(x.vintage(w, w), w);
        }
        is(x.vintage(0, 0), -4);
        is(x.vintage(200, 0), -2);
        is(x.count(7), 5);
    }

    static void p6() {
        begin(6);
        folk();
        int[] facts = {1, 3, 60, 90, -5, 40, 1, 2, 10};
        for (int what = 0; what <= 8; what++) {
            is(x.of(1, what), facts[what]);
        }
        is(x.of(1, 9), -10001);
        is(x.of(1, -1), -10001);
        is(x.of(-1, 0), -10001);
        is(x.of(6, 0), -10001);
        agesByKind();
        stages();
        nerves();
    }

    static void agesByKind() {
        // With 131 behind 100: half of 31 is 15; with 85 ahead of it: half of -15 is -7.
        int[] by131 = {71, 68, 55, 40, 65, 40}, by85 = {25, 22, 33, 40, 19, 33}, by50 = {-10, -13, 15, 40, -16, 15};
        for (int p = 0; p <= 5; p++) {
            x.stock(0, 9);
            x.stock(1, 9);
            x.stock(2, 9);
            x.pour(p, 2);
            is(x.of(p, 5), by131[p]);
            x.pour(p, 1);
            is(x.of(p, 5), by85[p]);
            is(x.of(p, 4), 1);
            x.pour(p, 0);
            is(x.of(p, 5), by50[p]);
            is(x.of(p, 6), by50[p] < 0 ? 0 : 1);
            x.dry(p);
            is(x.of(p, 5), 40);
        }
        begin(6);
        x.person(6, 9, 60, 90);
        x.vintage(85, 5);
        x.vintage(130, 5);
        x.row(0, 1, 7);
        x.pour(0, 0);
        is(x.of(0, 5), 33);
        x.pour(0, 1);
        is(x.of(0, 5), 40);
        x.row(0, 2, 9);
        is(x.of(0, 5), 31);
        x.dry(0);
        is(x.of(0, 5), 40);
    }

    static void stages() {
        begin(6);
        x.person(0, 0, 101, 50);
        is(x.of(0, 5), -1);
        is(x.of(0, 6), 0);
        is(x.of(0, 7), 0);
        x.person(0, 0, 100, 0);
        is(x.of(1, 6), 1);
        is(x.of(1, 7), 1);
        x.person(0, 0, 50, 49);
        is(x.of(2, 6), 0);
        is(x.of(2, 8), 0);
        x.person(0, 0, 82, 90);
        is(x.of(3, 7), 2);
        x.person(0, 0, 83, 90);
        is(x.of(4, 7), 1);
        x.person(0, 0, 40, 90);
        is(x.of(5, 7), 3);
        village("old 61");
        is(x.of(5, 7), 2);
        village("old 10;grown 61");
        is(x.of(5, 7), 1);
        village("old 60;grown 60");
        is(x.of(5, 7), 3);
    }

    static int nerveBy(String text) {
        x = new DrunkByYear();
        x.person(0, 0, 0, 0);
        x.person(4, 7, 55, 90);
        x.vintage(99, 9);
        x.vintage(99, 9);
        if (village(text) < 0) {
            return -1;
        }
        return x.of(1, 8);
    }

    static void nerves() {
        is(nerveBy("bold 5 p=1"), 15);
        is(nerveBy("bold 5 k=4"), 15);
        is(nerveBy("bold 5 v=7"), 15);
        is(nerveBy("bold 5 a=4"), 15);
        is(nerveBy("bold 5 s=2"), 15);
        is(nerveBy("bold 5 h=9"), 15);
        is(nerveBy("bold 5 v<7"), 10);
        is(nerveBy("bold 5 v>7"), 10);
        is(nerveBy("bold 5 v<8"), 15);
        is(nerveBy("bold 5 v>6"), 15);
        is(nerveBy("bold 5 !v=7"), 10);
        is(nerveBy("bold 5 !!v=7"), 15);
        is(nerveBy("bold 5 p=1|k=0&v=0"), 15);
        is(nerveBy("bold 5 (p=1|k=0)&v=0"), 10);
        is(nerveBy("bold 5 k=0&v=0|p=1"), 15);
        is(nerveBy("bold 5 !p=0&k=4"), 15);
        is(nerveBy("bold 5 !(p=0|k=4)"), 10);
        is(nerveBy("bold 5 p=0|k=0|v=0|s=0"), 10);
        is(nerveBy("bold 5 p=1&k=4&v=7&s=1"), 10);
        is(nerveBy("meek 9 p=1;bold 99 p=0"), 1);
        is(nerveBy("meek 12 p=1"), 0);
        is(nerveBy("meek 40 p=1;bold 35 p=1"), 5);
        is(nerveBy("grown 7;bold 1 p=1;old 99;bold 2 k=4"), 13);
        is(nerveBy("bold 5 h=1;bold 3 h<9;bold 50 a=3"), 10);
        x.pour(1, 1);
        // 99 - 55 - 7 - 7 is 30 by now.
        is(x.of(1, 8), 68);
        x.pour(1, 0);
        is(x.of(1, 8), 63);
    }

    static void p7() {
        begin(7);
        folk();
        x.dry(0);
        is(x.row(0, 0, 0), -3);
        is(x.row(0, 0, 10), -2);
        is(x.row(0, 4, 10), -1);
        is(x.row(0, -1, 0), -1);
        is(x.row(6, 0, 0), -1);
        is(x.row(-1, 0, 0), -1);
        begin(7);
        x.person(6, 0, 60, 90);
        is(x.row(0, 0, 9), 0);
        is(x.row(0, 0, -1), -2);
        is(x.row(0, 0, 3), 9);
        is(x.row(0, 3, 8), 0);
        is(x.row(0, 3, 0), 8);
        is(x.row(0, 0, 0), 3);
    }

    static void p8() {
        begin(8);
        folk();
        is(x.wine(1, 0), 85);
        is(x.wine(1, 1), 1);
        is(x.wine(2, 1), 3);
        is(x.wine(3, 0), -1);
        is(x.wine(-1, 0), -1);
        is(x.wine(0, 2), -1);
        is(x.wine(0, -1), -1);
    }

    static void p9() {
        begin(9);
        folk();
        is(x.stock(0, 99), 2);
        is(x.stock(0, 0), 99);
        is(x.stock(0, -1), -2);
        is(x.stock(0, 100), -2);
        is(x.stock(3, 100), -1);
        is(x.stock(-1, 0), -1);
        is(x.wine(0, 1), 0);
    }

    static void p10() {
        begin(10);
        folk();
        x.pour(0, 0);
        is(x.told(0), 100);
        is(x.told(1), 18);
        is(x.told(2), 60);
        is(x.told(3), 62);
        is(x.told(4), 50);
        is(x.told(5), 5);
        is(x.told(6), -1);
        is(x.told(-1), -1);
        village("grown 30;bold 4 k=1|k=5");
        is(x.told(1), 30);
        is(x.told(4), 58);
    }

    static void p11() {
        begin(11);
        folk();
        is(x.pour(0, 2), 3);
        is(x.wine(2, 1), 2);
        is(x.pour(0, 1), 2);
        is(x.wine(2, 1), 2);
        is(x.wine(1, 1), 0);
        is(x.pour(1, 1), -3);
        is(x.of(1, 4), -5);
        is(x.pour(0, 0), 0);
        is(x.pour(0, 0), 0);
        is(x.wine(0, 1), 0);
        is(x.pour(2, 2), 2);
        is(x.pour(6, 1), -1);
        is(x.pour(-1, 1), -1);
        is(x.pour(0, 3), -1);
        is(x.pour(0, -1), -1);
    }

    static void p12() {
        begin(12);
        folk();
        is(x.dry(0), -5);
        x.pour(0, 0);
        is(x.dry(0), 0);
        is(x.dry(0), -5);
        is(x.wine(0, 1), 1);
        is(x.dry(6), -1);
        is(x.dry(-1), -1);
    }

    static void p13() {
        begin(13);
        folk();
        x.pour(0, 2);
        x.pour(5, 2);
        is(x.dawn(0), -2);
        is(x.dawn(100), -2);
        is(x.dawn(-1), -2);
        is(x.of(0, 4), 2);
        is(x.dawn(1), 101);
        is(x.of(0, 4), -5);
        is(x.of(5, 4), -5);
        is(x.of(0, 5), 41);
        for (int i = 2; i <= 10; i++) {
            is(x.dawn(99), 99 * i + 2);
        }
        is(x.dawn(8), -3);
        is(x.dawn(7), 999);
    }

    static void p13edge() {
        begin(13);
        for (int i = 1; i <= 9; i++) {
            x.dawn(99);
        }
        x.person(0, 0, 60, 90);
        x.vintage(70, 9);
        x.pour(0, 0);
        is(x.dawn(9), -3);
        is(x.of(0, 4), 0);
        is(x.dawn(8), 999);
        is(x.dawn(1), -3);
        is(x.dawn(0), -2);
        is(x.told(0), 999);
    }

    static void p14() {
        begin(14);
        folk();
        is(x.blend(0, 2), 3);
        is(x.wine(3, 0), 90);
        is(x.wine(3, 1), 2);
        is(x.wine(0, 1), 1);
        is(x.wine(2, 1), 2);
        is(x.blend(1, 1), -2);
        is(x.blend(4, 4), -1);
        is(x.blend(0, 4), -1);
        is(x.blend(-1, 0), -1);
        x.stock(0, 0);
        is(x.blend(0, 1), -3);
        is(x.blend(1, 0), -3);
        is(x.wine(1, 1), 1);
        is(x.blend(3, 1), 4);
        is(x.wine(4, 0), 87);
        is(x.wine(1, 1), 0);
        is(x.blend(3, 1), -3);
        is(x.blend(3, 2), -4);
        is(x.wine(3, 1), 1);
        is(x.blend(3, 3), -2);
    }

    static void p15() {
        begin(15);
        x.person(0, 0, 60, 50);
        x.person(3, 0, 110, 9);
        x.person(0, 0, 90, 99);
        x.vintage(50, 9);
        x.pour(2, 0);
        is(x.alive(0), 1);
        is(x.alive(1), 5);
        is(x.alive(9), 5);
        is(x.alive(10), 7);
        is(x.alive(11), 6);
        is(x.alive(20), 4);
        is(x.alive(99), 0);
        is(x.alive(100), -2);
        is(x.alive(-1), -2);
        is(x.told(0), 100);
        is(x.of(2, 4), 0);
    }

    static void p16() {
        begin(16);
        folk();
        is(x.brings(0), 6);
        is(x.brings(2), 7);
        x.stock(1, 0);
        is(x.brings(0), 4);
        x.stock(1, 1);
        x.pour(0, 1);
        is(x.brings(0), 4);
        is(x.brings(6), -1);
        is(x.brings(-1), -1);
    }

    static void p17() {
        begin(17);
        folk();
        is(x.nearest(0, 20), 1);
        is(x.nearest(0, 7), 0);
        is(x.nearest(0, 8), 1);
        is(x.nearest(0, 49), 2);
        is(x.nearest(0, 48), 1);
        is(x.nearest(3, 120), 0);
        x.stock(0, 0);
        is(x.nearest(0, 0), 1);
        x.stock(1, 0);
        x.stock(2, 0);
        is(x.nearest(0, 0), -5);
        is(x.nearest(0, -1), -2);
        is(x.nearest(0, 121), -2);
        is(x.nearest(6, 121), -1);
        is(x.nearest(-1, 0), -1);
    }

    static void p18() {
        begin(18);
        x.person(0, 0, 60, 90);
        is(x.two(), -5);
        x.person(0, 0, 101, 90);
        is(x.two(), -5);
        x.person(0, 0, 80, 90);
        is(x.two(), 2);
        x.person(0, 0, 70, 90);
        is(x.two(), 3);
        x.person(0, 0, 50, 90);
        is(x.two(), 3);
        x.person(0, 0, 79, 90);
        is(x.two(), 25);
        x.vintage(159, 1);
        x.pour(5, 0);
        x.dawn(1);
        is(x.two(), 25);
        x.vintage(61, 9);
        x.pour(2, 1);
        is(x.two(), 35);
        x.pour(0, 1);
        is(x.two(), 1);
    }

    static void p19() {
        begin(19);
        x.person(0, 1, 60, 70);
        x.person(2, 3, 95, 80);
        x.person(0, 0, 199, 120);
        x.person(0, 0, 10, 9);
        is(x.meet(0, 1, 0), 42);
        is(x.meet(0, 1, 1), 89);
        is(x.meet(1, 0, 1), 89);
        is(x.meet(2, 3, 0), 0);
        is(x.meet(2, 3, 1), -5);
        is(x.meet(2, 1, 0), 1);
        is(x.meet(2, 1, 1), 199);
        is(x.meet(0, 0, 0), -2);
        is(x.meet(0, 0, 2), -1);
        is(x.meet(4, 4, 0), -1);
        is(x.meet(0, 4, 0), -1);
        is(x.meet(-1, 0, 0), -1);
        is(x.meet(0, 1, -1), -1);
        begin(19);
        x.person(3, 0, 50, 90);
        x.person(6, 9, 100, 0);
        is(x.meet(0, 1, 0), 200);
        is(x.meet(0, 1, 1), 0);
        x.row(1, 0, 1);
        is(x.meet(0, 1, 0), 150);
        is(x.meet(0, 1, 1), 1);
    }

    /** Two not yet born, whom wine of 130 brings; one who is here, whom it does away with. */
    static void party() {
        x.person(0, 0, 110, 90);
        x.person(0, 0, 120, 90);
        x.person(0, 0, 60, 50);
        x.vintage(130, 1);
        x.vintage(130, 1);
    }

    static void p20() {
        begin(20);
        is(x.fewest(0, 0), 0);
        is(x.fewest(1, 0), -2);
        is(x.fewest(1, 10), -1);
        party();
        is(x.fewest(7, 0), 2);
        is(x.fewest(7, 10), 0);
        is(x.fewest(7, 11), 1);
        is(x.fewest(7, 12), -5);
        is(x.fewest(4, 0), 0);
        is(x.fewest(4, 10), -5);
        is(x.fewest(0, 0), 1);
        is(x.fewest(0, 12), 0);
        is(x.fewest(1, 0), 2);
        is(x.fewest(1, 12), 1);
        is(x.fewest(3, 0), -6);
        is(x.fewest(3, 12), -6);
        is(x.fewest(8, 0), -2);
        is(x.fewest(-1, 0), -2);
        is(x.fewest(8, 1), -1);
        is(x.fewest(7, 13), -1);
        is(x.fewest(7, 9), -1);
        is(x.fewest(7, Integer.MIN_VALUE), -1);
        x.pour(2, 0);
        is(x.fewest(7, 0), -6);
        is(x.fewest(4, 0), 0);
        is(x.of(2, 4), 0);
    }

    static void p21() {
        begin(21);
        is(x.close(0), 0);
        is(x.close(10), -1);
        party();
        // 20 and 10 by wine, 40 without.
        is(x.close(0), 30);
        is(x.close(10), 0);
        is(x.close(12), -5);
        is(x.close(13), -1);
        is(x.close(1), -1);
        x.vintage(120, 9);
        // By the third wine 10 and by the second 10 again; number 2 has none.
        is(x.close(0), 30);
        is(x.close(10), 0);
        is(x.close(11), 1);
        x.vintage(100, 9);
        is(x.close(12), -5);
        x.vintage(70, 1);
        // Number 2 is 10 by the fourth.
        is(x.close(0), 0);
        is(x.close(10), 2);
        is(x.close(11), 0);
        is(x.close(12), 4);
        x.stock(2, 0);
        x.stock(0, 0);
        is(x.close(0), -6);
        is(x.close(10), -6);
    }

    static void p21few() {
        begin(21);
        x.person(0, 0, 90, 90);
        x.person(0, 0, 90, 90);
        x.vintage(95, 9);
        is(x.close(0), 0);
        is(x.close(10), -5);
        is(x.close(11), -5);
    }

    static void p22() {
        begin(22);
        is(x.boldest(0), 0);
        is(x.boldest(10), -1);
        party();
        is(x.boldest(0), 30);
        is(x.boldest(10), 0);
        is(x.boldest(11), 1);
        is(x.boldest(12), -5);
        village("bold 25 h=1&p=2;meek 3 p<2;bold 40 a>2");
        // Number 2 is bold without wine, as 40 and not here by any.
        is(x.boldest(0), 64);
        village("bold 9 h=0;bold 9 h=1");
        is(x.boldest(0), 48);
        is(x.boldest(10), 0);
        is(x.boldest(11), 1);
        x.stock(1, 0);
        is(x.boldest(0), 29);
        is(x.boldest(10), -5);
        is(x.boldest(11), 0);
        is(x.boldest(13), -1);
        is(x.boldest(1), -1);
        is(x.boldest(-1), -1);
        village("meek 10 p<9");
        is(x.boldest(0), 0);
        is(x.boldest(10), -5);
    }

    static void p23() {
        begin(23);
        x.person(0, 0, 60, 90);
        is(x.see(0, -200), 1);
        is(x.see(0, 400), 2);
        is(x.see(0, -201), -2);
        is(x.see(0, 401), -2);
        is(x.see(1, 401), -1);
        is(x.see(-2, 0), -1);
        is(x.see(0, 5), 3);
        is(x.see(0, 5), 4);
        is(x.see(0, 5), 5);
        is(x.see(0, 5), -4);
        is(x.see(0, 401), -2);
        is(x.count(2), 5);
        is(x.see(-1, 9999), 0);
        is(x.count(2), 0);
        is(x.see(0, 5), 1);
    }

    static void p24() {
        begin(24);
        folk();
        is(x.drank(0), 39);
        x.see(3, 7);
        is(x.drank(0), 39);
        is(x.drank(3), 0);
        x.see(0, 25);
        is(x.drank(0), 2);
        x.stock(1, 0);
        is(x.drank(0), 2);
        x.see(0, 40);
        is(x.drank(0), 0);
        x.see(-1, 0);
        x.see(3, 40);
        x.see(0, 40);
        is(x.drank(3), 39);
        is(x.drank(0), 32);
        is(x.drank(6), -1);
        is(x.drank(-1), -1);
    }

    static void p25() {
        begin(25);
        folk();
        is(x.birth(0, 0), 200);
        is(x.birth(0, 1), 0);
        x.see(0, 25);
        is(x.birth(0, 0), 1);
        is(x.birth(0, 1), 75);
        x.pour(0, 2);
        is(x.birth(0, 1), 106);
        x.see(0, 26);
        is(x.birth(0, 0), 0);
        is(x.birth(0, 1), -5);
        is(x.birth(1, 0), 200);
        x.see(1, -99);
        is(x.birth(1, 1), 199);
        x.see(2, 101);
        is(x.birth(2, 1), -5);
        is(x.birth(0, 2), -1);
        is(x.birth(0, -1), -1);
        is(x.birth(6, 0), -1);
        is(x.birth(-1, 0), -1);
        is(x.of(0, 2), 60);
    }

    static void p26() {
        begin(26);
        folk();
        is(x.firm(1, 0), 10);
        is(x.firm(1, 1), 0);
        x.see(1, 66);
        is(x.firm(1, 0), 0);
        is(x.firm(1, 1), -5);
        x.pour(1, 2);
        is(x.firm(1, 0), 1);
        is(x.firm(1, 1), 5);
        x.see(4, 53);
        x.pour(4, 2);
        is(x.firm(4, 1), 9);
        x.see(4, 53);
        is(x.firm(4, 0), 1);
        x.see(3, 40);
        is(x.firm(3, 0), 10);
        is(x.firm(1, 2), -1);
        is(x.firm(1, -1), -1);
        is(x.firm(6, 0), -1);
        is(x.firm(-1, 0), -1);
        is(x.of(1, 1), 3);
    }

    static void p27() {
        begin(27);
        x.person(0, 0, 60, 70);
        is(x.odds(0, 0, 0), NO);
        folk();
        // 71 years are too many.
        is(x.odds(0, 0, 0), 5);
        is(x.odds(0, 0, 1), 6);
        is(x.odds(0, 2, 0), 1);
        is(x.odds(0, 2, 1), 6);
        is(x.odds(0, 1, 0), 0);
        is(x.odds(0, 1, 1), 1);
        x.stock(2, 99);
        is(x.odds(0, 0, 0), 101);
        is(x.odds(0, 0, 1), 102);
        is(x.odds(1, 3, 0), 33);
        is(x.odds(1, 3, 1), 34);
        is(x.odds(3, 1, 0), 1);
        is(x.odds(3, 1, 1), 51);
        is(x.odds(0, 4, 0), NO);
        is(x.odds(0, -1, 0), NO);
        is(x.odds(0, 0, 2), NO);
        is(x.odds(0, 0, -1), NO);
        is(x.odds(6, 0, 0), NO);
        is(x.odds(-1, 0, 0), NO);
    }

    static void p28() {
        begin(28);
        is(x.mean(0), NO);
        x.person(0, 0, 101, 90);
        is(x.mean(1), NO);
        x.person(0, 0, 90, 90);
        is(x.mean(0), 10);
        is(x.mean(1), 1);
        x.person(0, 0, 95, 90);
        is(x.mean(0), 15);
        is(x.mean(1), 2);
        x.person(0, 0, 94, 90);
        is(x.mean(0), 7);
        is(x.mean(1), 1);
        is(x.mean(2), NO);
        is(x.mean(-1), NO);
        begin(28);
        x.person(0, 0, 100, 90);
        x.person(0, 0, 100, 90);
        is(x.mean(0), 0);
        is(x.mean(1), 1);
    }

    static void p29() {
        begin(29);
        is(x.night(0, 77, -77), 1);
        is(x.night(1, 0, 0), -1);
        is(x.night(2, 0, 0), -1);
        folk();
        is(x.night(1, 0, 0), 2);
        is(x.night(1, 0, 3), -1);
        is(x.night(1, 0, -1), -1);
        is(x.night(1, 6, 0), -1);
        is(x.night(1, -1, 0), -1);
        is(x.night(2, 6, 0), -1);
        is(x.night(2, 5, 99), 3);
        is(x.night(3, 0, 0), -1);
        is(x.night(-2, 0, 0), -1);
        for (int i = 4; i <= 8; i++) {
            is(x.night(0, 0, 0), i);
        }
        is(x.night(0, 0, 0), -4);
        is(x.night(3, 0, 0), -1);
        is(x.count(3), 8);
        is(x.night(-1, 99, 99), 0);
        is(x.count(3), 0);
        is(x.wine(0, 1), 2);
    }

    static void p30() {
        begin(30);
        is(x.done(0), 0);
        folk();
        village("bold 5 h<9");
        is(x.done(0), 6);
        is(x.done(1), 60);
        x.night(1, 0, 1);
        x.night(1, 1, 1);
        is(x.done(0), 6);
        is(x.done(1), 65);
        x.night(1, 0, 0);
        is(x.done(0), 5);
        is(x.done(1), 50);
        x.night(2, 0, 0);
        is(x.done(0), 6);
        is(x.done(1), 60);
        x.night(1, 2, 2);
        is(x.done(1), 65);
        x.night(0, 0, 0);
        is(x.done(1), 60);
        is(x.of(0, 4), -5);
        is(x.wine(1, 1), 1);
        is(x.told(0), 100);
        is(x.done(2), -1);
        is(x.done(-1), -1);
        begin(30);
        x.person(0, 0, 101, 90);
        x.person(0, 0, 10, 90);
        is(x.done(0), 1);
        x.night(0, 0, 0);
        is(x.done(0), 1);
        is(x.done(1), 10);
    }

    static void p31() {
        begin(31);
        x.person(0, 0, 60, 90);
        is(x.book(0, -200), 1);
        is(x.book(0, 400), 2);
        is(x.book(0, -201), -2);
        is(x.book(0, 401), -2);
        is(x.book(1, 401), -1);
        is(x.book(-2, 0), -1);
        for (int i = 3; i <= 8; i++) {
            is(x.book(0, 5), i);
        }
        is(x.book(0, 5), -4);
        is(x.book(0, 401), -2);
        is(x.count(4), 8);
        is(x.book(-1, -999), 0);
        is(x.count(4), 0);
    }

    static void p32() {
        begin(32);
        is(x.looked(), -5);
        folk();
        x.book(0, 40);
        x.book(1, 40);
        x.book(0, 40);
        is(x.looked(), -5);
        x.pour(1, 2);
        is(x.looked(), 1);
        x.book(0, 41);
        x.dry(1);
        is(x.looked(), 3);
        x.dawn(1);
        is(x.looked(), 0);
    }

    static void p33() {
        begin(33);
        folk();
        // Of x = 10 with v 3: by kind, then drinks, ages, tells.
        int[][] answers = {{10, 7, 14}, {31, 28, 56}, {12, -9, -18}, {13, 10, 19}, {34, 31, 66}, {10, -7, -14}};
        for (int p = 0; p <= 5; p++) {
            for (int act = 0; act <= 2; act++) {
                is(x.act(p, act, 10), answers[p][act]);
            }
        }
        is(x.act(0, 2, Integer.MAX_VALUE), -8);
        is(x.act(1, 0, Integer.MAX_VALUE), Integer.MAX_VALUE - 1);
        is(x.count(6), 2);
        is(x.act(6, 0, 1), 0);
        is(x.count(6), 0);
        x.act(1, 0, 1);
        is(x.act(0, 3, 1), 0);
        is(x.trace(0), -1);
        x.act(1, 0, 1);
        is(x.act(0, -1, 1), 0);
        is(x.count(6), 0);
        is(x.act(-1, 0, 1), 0);
        begin(33);
        x.person(6, 4, 60, 90);
        is(x.act(0, 0, 5), 5);
        is(x.act(0, 1, 5), 5);
        is(x.act(0, 2, 5), 13);
    }

    static void trace(int... bodies) {
        is(x.count(6), bodies.length);
        for (int i = 0; i < bodies.length; i++) {
            is(x.trace(i), bodies[i]);
        }
        is(x.trace(bodies.length), -1);
        is(x.trace(-1), -1);
    }

    static void p34() {
        begin(34);
        folk();
        x.act(0, 2, 1);
        trace(3, 2, 1);
        x.act(0, 0, 1);
        trace(1);
        x.act(1, 1, 1);
        trace(2, 11, 1);
        x.act(2, 2, 1);
        trace(3, 21, 2, 1);
        x.act(3, 2, 1);
        trace(31, 3, 2, 1);
        x.act(4, 2, 1);
        trace(41, 3, 2, 11, 1, 11, 1);
        x.act(5, 2, 1);
        trace(3, 21, 2, 51, 1);
        x.of(0, 0);
        trace(3, 21, 2, 51, 1);
        begin(34);
        x.person(6, 4, 60, 90);
        x.act(0, 2, 1);
        trace(31, 3, 61, 2, 1);
    }

    static void p35() {
        begin(35);
        for (int kind = 1; kind <= 6; kind++) {
            x.person(kind, kind + 2, 60, 90);
        }
        String[] under = {"0100", "0010", "0001", "0100", "0010", "0001"};
        for (int p = 0; p <= 5; p++) {
            is(x.as(p, 0), p + 3);
            for (int k = 1; k <= 6; k++) {
                boolean so = k == p + 1 || (k <= 3 && under[p].charAt(k) == '1');
                is(x.as(p, k), so ? p + 3 : -6);
            }
        }
        is(x.as(0, 7), -1);
        is(x.as(0, -1), -1);
        is(x.as(6, 0), -1);
        is(x.as(-1, 0), -1);
        begin(35);
        x.person(0, 5, 60, 90);
        is(x.as(0, 0), 5);
        is(x.as(0, 1), -6);
    }

    static void p36() {
        begin(36);
        is(x.image(), 0);
        folk();
        is(x.image(), 6);
        is(x.undo(), 6);
        is(x.count(7), 3);
        begin(36);
        x.image();
        x.person(0, 0, 0, 0);
        is(x.count(0), 1);
        is(x.undo(), 0);
    }

    static void p37() {
        begin(37);
        x.person(6, 5, 60, 90);
        x.person(0, 5, 70, 90);
        is(x.undo(), -3);
        x.vintage(80, 5);
        x.row(0, 0, 4);
        x.pour(0, 0);
        village("old 30");
        x.see(0, 1);
        x.night(0, 0, 0);
        x.book(1, 30);
        feedAll("old 3");
        is(x.image(), 2);
        for (int again = 0; again < 2; again++) {
            x.row(0, 0, 9);
            x.dawn(9);
            x.blend(0, 0);
            x.vintage(10, 1);
            x.stock(0, 1);
            x.person(1, 1, 1, 1);
            is(x.village(), 1);
            feedAll("grown 9");
            is(x.village(), 2);
            x.see(-1, 0);
            x.night(-1, 0, 0);
            x.book(1, 31);
            x.act(1, 2, 1);
            is(x.undo(), 2);
            trace(3, 2, 1);
            is(x.told(0), 100);
            is(x.told(1), 18);
            is(x.told(2), 30);
            is(x.of(0, 4), 0);
            is(x.of(0, 5), 36);
            is(x.wine(0, 1), 4);
            int[] counts = {2, 1, 1, 1, 1, 5, 3, 1};
            for (int what = 0; what <= 7; what++) {
                is(x.count(what), counts[what]);
            }
            is(x.looked(), -5);
            is(x.drank(0), 0);
            is(x.done(0), 2);
        }
        feedAll("5");
        is(x.village(), 1);
        is(x.told(2), 35);
        x.undo();
        is(x.told(2), 30);
    }

    static void p38() {
        begin(38);
        folk();
        x.see(0, 1);
        x.see(0, 1);
        x.night(0, 0, 0);
        x.book(0, 1);
        x.book(0, 1);
        x.book(0, 1);
        x.book(0, 1);
        village("old 1");
        feedAll("old 1");
        x.act(4, 2, 1);
        int[] counts = {6, 1, 2, 1, 4, 5, 7, 3};
        for (int what = 0; what <= 7; what++) {
            is(x.count(what), counts[what]);
        }
        is(x.count(8), -1);
        is(x.count(-1), -1);
    }

    public static void main(String[] args) {
        p1(); p2(); p3(); p4(); p5(); p6(); p7(); p8(); p9(); p10();
        p11(); p12(); p13(); p13edge(); p14(); p15(); p16(); p17(); p18(); p19(); p20();
        p21(); p21few(); p22(); p23(); p24(); p25(); p26(); p27(); p28(); p29(); p30();
        p31(); p32(); p33(); p34(); p35(); p36(); p37(); p38();
        System.out.println(wrong == 0 ? due + " answers are as due" : wrong + " of " + due + " answers are not as due");
        if (wrong != 0) System.exit(1);
    }
}
