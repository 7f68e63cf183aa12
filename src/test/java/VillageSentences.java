/** Promises 1 to 3: a new object, the tape, villages. */
final class VillageSentences extends Sentences {

    // ---- promise 1: a new object

    @Says("Nobody, no VINTAGES, no VILLAGE.")
    void p01_nobody() {
        is(x.count(0), 0);
        is(x.of(0, 0), UNKNOWN);
        is(x.told(3), 0);
        is(x.told(4), 0);
        is(x.two(), NOTHING);
    }

    @Says("Nobody, no VINTAGES, no VILLAGE.")
    void p01_noVintages() {
        is(x.count(7), 0);
        is(x.wine(0, 0), NONE);
        is(x.told(5), 0);
    }

    @Says("Nobody, no VINTAGES, no VILLAGE.")
    void p01_noVillage() {
        is(x.count(1), 0);
        is(x.told(1), 18);
        is(x.told(2), 60);
    }

    @Says("YEAR: 100 at first.")
    void p01_theYearIs100() {
        is(x.told(0), 100);
    }

    @Says("Nobody, no VINTAGES, no VILLAGE.")
    void p01_allElseIsEmpty() {
        is(x.count(2), 0);
        is(x.count(3), 0);
        is(x.count(4), 0);
        is(x.count(5), 0);
        is(x.count(6), 0);
        is(x.trace(0), NONE);
        is(x.undo(), STATE);
    }

    @Says("Nobody, no VINTAGES, no VILLAGE.")
    void p01_nothingOfAnotherObject() {
        DrunkByYear other = rich();
        is(x.count(0), 0);
        DrunkByYear newer = new DrunkByYear();
        is(newer.count(0), 0);
        is(newer.told(1), 18);
        is(newer.undo(), STATE);
        is(other.count(0), 4);
    }

    @Says("NO = Long.MIN_VALUE")
    void p01_theConstants() {
        is(DrunkByYear.NONE, -1);
        is(DrunkByYear.BAD, -2);
        is(DrunkByYear.STATE, -3);
        is(DrunkByYear.FULL, -4);
        is(DrunkByYear.NO, Long.MIN_VALUE);
    }

    // ---- promise 2: feed

    private static DrunkByYear fed(int signs) {
        DrunkByYear x = new DrunkByYear();
        times(signs, () -> x.feed('o'));
        return x;
    }

    @Says("A sign (0 .. 127) comes behind THE TAPE's: how many it has.")
    void p02_theFirstSignIsOne() {
        is(x.feed('o'), 1);
        is(x.feed('o'), 2);
    }

    @Says("A sign (0 .. 127) comes behind THE TAPE's: how many it has.")
    void p02_behindTheOthers() {
        is(village("old 12"), 0);
        is(x.told(2), 12);
    }

    @Says("A sign (0 .. 127) comes behind THE TAPE's: how many it has.")
    void p02_sign0() {
        is(x.feed(0), 1);
        is(x.count(5), 1);
    }

    @Says("A sign (0 .. 127) comes behind THE TAPE's: how many it has.")
    void p02_sign127() {
        is(x.feed(127), 1);
        is(x.count(5), 1);
    }

    @Says("BAD; FULL.")
    void p02_signTooSmallIsBad() {
        unchanged(x -> x.feed(-1), BAD);
        unchanged(x -> x.feed(MIN), BAD);
    }

    @Says("BAD; FULL.")
    void p02_signTooLargeIsBad() {
        unchanged(x -> x.feed(128), BAD);
        unchanged(x -> x.feed(MAX), BAD);
        unchanged(x -> x.feed(256 + 'o'), BAD);
    }

    @Says("A VILLAGE is read from THE TAPE (bytes, 100 at most)")
    void p02_theHundredthSignComes() {
        x = fed(99);
        is(x.feed('o'), 100);
        is(x.count(5), 100);
    }

    @Says("BAD; FULL.")
    void p02_theHundredAndFirstSignIsFull() {
        unchanged(() -> fed(100), x -> x.feed('o'), FULL);
        unchanged(() -> fed(100), x -> x.feed(0), FULL);
    }

    @Says("BAD; FULL.")
    void p02_badAheadOfFull() {
        unchanged(() -> fed(100), x -> x.feed(128), BAD);
        unchanged(() -> fed(100), x -> x.feed(-1), BAD);
    }

    @Says("A sign (0 .. 127) comes behind THE TAPE's: how many it has.")
    void p02_anewBehindAVillage() {
        village("old 1");
        is(x.feed('o'), 1);
    }

    @Says("A sign (0 .. 127) comes behind THE TAPE's: how many it has.")
    void p02_anewBehindAFault() {
        x = fed(100);
        x.village();
        is(x.feed('o'), 1);
    }

    // ---- promise 3: village, its numbers and its tape

    private static DrunkByYear fiveVillages() {
        DrunkByYear x = rich();
        feed(x, "1");
        x.village();
        village(x, "old 32");
        village(x, "old 33");
        village(x, "old 34");
        feed(x, "old 3");
        return x;
    }

    /** A text that is the first village. */
    private void reads(String text) {
        DrunkByYear x = new DrunkByYear();
        feed(x, text);
        is(x.count(5), text.length());
        is(x.village(), 0);
        is(x.count(1), 1);
        is(x.count(5), 0);
    }

    /** A text that no village goes on with from here on. */
    private void faults(String text, int at) {
        DrunkByYear x = new DrunkByYear();
        feed(x, text);
        is(x.count(5), text.length());
        is(x.village(), -10 - at);
        is(x.count(1), 0);
        is(x.count(5), 0);
    }

    @Says("THE TAPE, which is empty then (by a FAULT, too), is a VILLAGE, and holds: its number")
    void p03_theFirstIsNumber0() {
        is(village("old 1"), 0);
        is(village("old 1"), 1);
    }

    @Says("VILLAGES are numbered from 0 on, 5 at most")
    void p03_theFifthIsNumber4() {
        times(4, () -> village("old 1"));
        is(village("old 44"), 4);
        is(x.told(2), 44);
        is(x.count(1), 5);
    }

    @Says("FULL (ahead of all; THE TAPE stays).")
    void p03_theSixthIsFull() {
        is(fiveVillages().count(1), 5);
        unchanged(() -> {
            DrunkByYear x = fiveVillages();
            feed(x, "7");
            return x;
        }, DrunkByYear::village, FULL);
    }

    @Says("FULL (ahead of all; THE TAPE stays).")
    void p03_fullAheadOfAFault() {
        unchanged(VillageSentences::fiveVillages, DrunkByYear::village, FULL);
    }

    @Says("FULL (ahead of all; THE TAPE stays).")
    void p03_fullAheadOfAnEmptyTape() {
        times(5, () -> village("old 1"));
        is(x.village(), FULL);
    }

    @Says("FULL (ahead of all; THE TAPE stays).")
    void p03_byFullTheTapeStays() {
        times(5, () -> village("old 1"));
        feed(x, "old 7");
        is(x.village(), FULL);
        is(x.count(5), 5);
        is(x.feed('7'), 6);
        is(x.village(), FULL);
        is(x.count(5), 6);
    }

    @Says("THE TAPE, which is empty then (by a FAULT, too), is a VILLAGE, and holds: its number")
    void p03_theTapeIsEmptyThen() {
        village("old 1");
        is(x.count(5), 0);
        is(village("old 2"), 1);
        is(x.told(2), 2);
    }

    @Says("THE TAPE, which is empty then (by a FAULT, too), is a VILLAGE, and holds: its number")
    void p03_theTapeIsEmptyByAFaultToo() {
        is(village("old x"), -14);
        is(x.count(5), 0);
        is(village("old 2"), 0);
    }

    @Says("-10 less the FAULT (the one that held holds)")
    void p03_byAFaultTheOneThatHeldHolds() {
        village("grown 21;old 55;bold 5 p=0");
        x.person(0, 0, 60, 90);
        is(village("grown 1;old 2;bold 9 p=0;"), -35);
        is(x.told(1), 21);
        is(x.told(2), 55);
        is(x.of(0, 8), 15);
    }

    @Says("-10 less the FAULT (the one that held holds)")
    void p03_byAFaultNoneHoldsWhereNoneHeld() {
        x.person(0, 0, 60, 90);
        is(village("grown 1;old 2;bold 9 p=0;"), -35);
        is(x.told(1), 18);
        is(x.told(2), 60);
        is(x.of(0, 8), 10);
    }

    @Says("-10 less the FAULT (the one that held holds)")
    void p03_aFaultTakesNoNumber() {
        village("old 1");
        village("x");
        is(x.count(1), 1);
        is(village("old 2"), 1);
    }

    @Says("-10 less the FAULT (the one that held holds)")
    void p03_nothingOfAFaultIsInTheNext() {
        x.person(0, 0, 60, 90);
        village("bold 9 p=0;grown 1;old 2;bold 7 p=0|");
        is(village("bold 5 p=0"), 0);
        is(x.of(0, 8), 15);
        is(x.told(1), 18);
        is(x.told(2), 60);
    }

    @Says("-10 less the FAULT (the one that held holds)")
    void p03_nothingOfManyFaultsIsInTheNext() {
        x.person(0, 0, 60, 90);
        String text = "bold 10 p=0" + "|p=1".repeat(22) + "|";
        for (int i = 0; i < 4; i++) {
            is(village(text), -110);
        }
        is(village("bold 7 p=1|p=2;bold 5 p=0;meek 2 p=1|p=0"), 0);
        is(x.of(0, 8), 13);
    }

    @Says("THE TAPE, which is empty then (by a FAULT, too), is a VILLAGE, and holds: its number")
    void p03_whatStoodOnTheTapeBeforeIsNotRead() {
        String text = "bold 12 !(p=10|k=0);old 77";
        for (int size = 0; size < text.length(); size++) {
            boolean ends = size == text.length() - 1;
            x = new DrunkByYear();
            feed(x, text + ";");
            is(x.village(), -37);
            feed(x, text.substring(0, size));
            is(x.village(), ends || size == 19 ? 0 : -10 - size);
            is(x.told(2), ends ? 7 : 60);
        }
    }

    // ---- promise 3: which one holds, and from when one is grown and old

    @Says("the newest one holds")
    void p03_theNewestHolds() {
        x.person(0, 0, 60, 90);
        village("old 30;bold 5 p=0");
        is(x.of(0, 8), 15);
        is(x.of(0, 7), 3);
        village("bold 7 p=0");
        is(x.of(0, 8), 17);
        is(x.of(0, 7), 2);
    }

    @Says("without one there are no CLAUSES")
    void p03_withoutOneNoClauses() {
        x.person(0, 0, 60, 90);
        is(x.of(0, 8), 10);
        is(x.told(1), 18);
        is(x.told(2), 60);
    }

    @Says("GROWN (18 without), OLD (60 without): the last n.")
    void p03_grown18Without() {
        is(village("old 1"), 0);
        is(x.told(1), 18);
    }

    @Says("GROWN (18 without), OLD (60 without): the last n.")
    void p03_old60Without() {
        is(village("grown 1"), 0);
        is(x.told(2), 60);
    }

    @Says("GROWN (18 without), OLD (60 without): the last n.")
    void p03_grown18AndOld60BehindOneThatHadThem() {
        village("grown 1;old 2");
        village("meek 1 p=0");
        is(x.told(1), 18);
        is(x.told(2), 60);
    }

    @Says("GROWN (18 without), OLD (60 without): the last n.")
    void p03_theLastGrown() {
        village("grown 30;old 3;grown 20");
        is(x.told(1), 20);
        is(x.told(2), 3);
    }

    @Says("GROWN (18 without), OLD (60 without): the last n.")
    void p03_theLastOld() {
        village("old 30;grown 3;old 40");
        is(x.told(2), 40);
        is(x.told(1), 3);
    }

    // ---- promise 3: clauses

    @Says("CLAUSES, 10 at most, with ; between")
    void p03_tenClauses() {
        String nine = "old 1;".repeat(9);
        reads(nine + "old 2");
        village(nine + "old 77");
        is(x.told(2), 77);
        reads(nine + "grown 0");
    }

    @Says("CLAUSES, 10 at most, with ; between")
    void p03_tenClausesAllCount() {
        x.person(0, 0, 60, 90);
        is(village("bold 9 p=0;" + "old 1;".repeat(8) + "meek 3 k=0"), 0);
        is(x.of(0, 8), 10 + 9 - 3);
        is(village("bold 1 p=0;".repeat(8) + "bold 2 p=0"), 1);
        is(x.of(0, 8), 10 + 8 + 2);
    }

    @Says("CLAUSES, 10 at most, with ; between")
    void p03_anEleventhClauseIsAFault() {
        String ten = "old 1;".repeat(9) + "old 2";
        faults(ten + ";", 59);
        faults(ten + ";old 3", 59);
    }

    @Says("CLAUSES, 10 at most, with ; between: grown n; old n; bold n E; meek n E")
    void p03_noSemicolonBetween() {
        faults("old 1old 2", 5);
        faults("old 1 old 2", 5);
        faults("bold 1 p=1bold 2 p=1", 10);
    }

    @Says("CLAUSES, 10 at most, with ; between")
    void p03_aSemicolonAhead() {
        faults(";old 1", 0);
        faults(";", 0);
    }

    @Says("CLAUSES, 10 at most, with ; between")
    void p03_aSemicolonBehind() {
        faults("old 1;", 6);
        faults("bold 1 p=1;", 11);
    }

    @Says("CLAUSES, 10 at most, with ; between")
    void p03_twoSemicolons() {
        faults("old 1;;old 2", 6);
    }

    @Says("CLAUSES, 10 at most, with ; between")
    void p03_aBlankAtASemicolon() {
        faults("old 1 ;old 2", 5);
        faults("old 1; old 2", 6);
    }

    // ---- promise 3: words, blanks, numbers

    @Says("grown n; old n; bold n E; meek n E")
    void p03_anotherWord() {
        faults("x", 0);
        faults("young 1", 0);
        faults("Old 1", 0);
        faults("grawn 1", 2);
        faults("olt 1", 2);
        faults("bolder 1 p=1", 4);
        faults("bald 1 p=1", 1);
        faults("mean 1 p=1", 2);
        faults("old 1;x", 6);
    }

    @Says("grown n; old n; bold n E; meek n E")
    void p03_aWordEndsTooEarly() {
        faults("g", 1);
        faults("grown", 5);
        faults("ol", 2);
        faults("old", 3);
        faults("bol", 3);
        faults("bold", 4);
        faults("mee", 3);
        faults("meek", 4);
        faults("old 1;bo", 8);
    }

    @Says("grown n; old n; bold n E; meek n E")
    void p03_grownAndOldHaveNoE() {
        faults("grown 1 p=1", 7);
        faults("old 12 p=1", 6);
    }

    @Says("grown n; old n; bold n E; meek n E")
    void p03_boldAndMeekHaveAnE() {
        faults("bold 1", 6);
        faults("bold 1 ", 7);
        faults("bold 1;old 1", 6);
        faults("meek 12", 7);
        faults("meek 1 ;", 7);
    }

    @Says("one blank ahead of each part behind the word")
    void p03_noBlank() {
        faults("grown1", 5);
        faults("old1", 3);
        faults("bold1 p=1", 4);
        faults("meek1 p=1", 4);
        faults("bold 1p=1", 6);
        faults("meek 12p=1", 7);
    }

    @Says("one blank ahead of each part behind the word")
    void p03_twoBlanks() {
        faults("grown  1", 6);
        faults("old  1", 4);
        faults("bold  1 p=1", 5);
        faults("bold 1  p=1", 7);
        faults("meek  1 p=1", 5);
        faults("meek 1  p=1", 7);
    }

    @Says("one blank ahead of each part behind the word")
    void p03_aBlankElsewhere() {
        faults(" old 1", 0);
        faults("old 1 ", 5);
        faults("o ld 1", 1);
        faults("bold 1 p =1", 8);
        faults("bold 1 p= 1", 9);
        faults("bold 1 p=1 ", 10);
        faults("bold 1 p=1 &p=1", 10);
        faults("bold 1 p=1& p=1", 11);
        faults("bold 1 p=1| p=1", 11);
        faults("bold 1 ! p=1", 8);
        faults("bold 1 ( p=1)", 8);
    }

    @Says("n 1 or 2 digits, no 0 ahead of another")
    void p03_nHasADigit() {
        faults("old ", 4);
        faults("old ;", 4);
        faults("old x", 4);
        faults("old -1", 4);
        faults("old +1", 4);
        faults("grown ", 6);
        faults("bold  p=1", 5);
        faults("bold p=1", 5);
        faults("meek ", 5);
    }

    @Says("n 1 or 2 digits, no 0 ahead of another")
    void p03_nHasTwoDigitsAtMost() {
        reads("old 10");
        reads("old 99");
        faults("old 100", 6);
        faults("grown 123", 8);
        faults("bold 100 p=1", 7);
        faults("meek 999 p=1", 7);
    }

    @Says("n 1 or 2 digits, no 0 ahead of another")
    void p03_nFrom0To99() {
        village("grown 0;old 99");
        is(x.told(1), 0);
        is(x.told(2), 99);
        village("grown 9;old 10");
        is(x.told(1), 9);
        is(x.told(2), 10);
    }

    @Says("n 1 or 2 digits, no 0 ahead of another")
    void p03_no0AheadOfAnother() {
        reads("old 0");
        faults("old 00", 5);
        faults("old 01", 5);
        faults("grown 09", 7);
        faults("bold 05 p=1", 6);
        faults("meek 00 p=1", 6);
    }

    @Says("n 1 or 2 digits, no 0 ahead of another")
    void p03_signsNextToTheDigits() {
        faults("old /", 4);
        faults("old :", 4);
        faults("old 1/", 5);
        faults("old 1:", 5);
    }

    // ---- promise 3: what stands in an E

    @Says("E: T, or T|E.")
    void p03_anOrHasTwoSides() {
        reads("bold 1 p=1|p=2");
        reads("bold 1 p=1|p=2|p=3");
        faults("bold 1 |p=1", 7);
        faults("bold 1 p=1|", 11);
        faults("bold 1 p=1||p=2", 11);
        faults("bold 1 p=1|&p=2", 11);
        faults("bold 1 (p=1|)", 12);
    }

    @Says("T: F, or F&T.")
    void p03_anAndHasTwoSides() {
        reads("bold 1 p=1&p=2");
        reads("bold 1 p=1&p=2&p=3");
        faults("bold 1 &p=1", 7);
        faults("bold 1 p=1&", 11);
        faults("bold 1 p=1&&p=2", 11);
        faults("bold 1 p=1&|p=2", 11);
        faults("bold 1 (p=1&)", 12);
    }

    @Says("F: !F, (E), or a TEST")
    void p03_aNotHasAnF() {
        reads("bold 1 !p=1");
        faults("bold 1 !", 8);
        faults("bold 1 p=1!", 10);
        faults("bold 1 p!=1", 8);
        faults("bold 1 !&p=1", 8);
        faults("bold 1 !;old 1", 8);
    }

    @Says("F: !F, (E), or a TEST")
    void p03_aBracketHasAnE() {
        reads("bold 1 (p=1)");
        reads("bold 1 (p=1|p=2&p=3)");
        faults("bold 1 ()", 8);
        faults("bold 1 (", 8);
        faults("bold 1 (p=1", 11);
        faults("bold 1 (p=1;old 1", 11);
        faults("bold 1 (p=1(", 11);
        faults("bold 1 p=1)", 10);
        faults("bold 1 (p=1))", 12);
        faults("bold 1 )", 7);
    }

    @Says("a TEST: p or k or v or a or s or h, one of < = >")
    void p03_aTestOfAnotherLetter() {
        for (char letter : "pkvash".toCharArray()) {
            reads("bold 1 " + letter + "=1");
        }
        for (char letter : "bPgoquwrt=<1@".toCharArray()) {
            faults("bold 1 " + letter + "=1", 7);
        }
    }

    @Says("a TEST: p or k or v or a or s or h, one of < = >")
    void p03_aTestByAnotherSign() {
        reads("bold 1 p<1");
        reads("bold 1 p=1");
        reads("bold 1 p>1");
        faults("bold 1 p", 8);
        faults("bold 1 p1", 8);
        faults("bold 1 p;1", 8);
        faults("bold 1 p?1", 8);
        faults("bold 1 p<=1", 9);
        faults("bold 1 p==1", 9);
        faults("bold 1 p<>1", 9);
    }

    @Says("a number likewise")
    void p03_theNumberOfATestLikewise() {
        reads("bold 1 p=0");
        reads("bold 1 p=99");
        faults("bold 1 p=", 9);
        faults("bold 1 p=x", 9);
        faults("bold 1 p=-1", 9);
        faults("bold 1 p=00", 10);
        faults("bold 1 p=01", 10);
        faults("bold 1 p=100", 11);
        faults("bold 1 p<", 9);
    }

    // ---- promise 3: how deep

    @Says("At most 5 of ! and ( are open")
    void p03_fiveBracketsAreOpen() {
        reads("bold 1 (((((p=1)))))");
    }

    @Says("At most 5 of ! and ( are open")
    void p03_aSixthBracketIsAFault() {
        faults("bold 1 ((((((p=1))))))", 12);
        faults("bold 1 (((((!p=1)))))", 12);
        faults("bold 1 (((((p=1&(p=1))))))", 16);
    }

    @Says("At most 5 of ! and ( are open")
    void p03_fiveNotsAreOpen() {
        reads("bold 1 !!!!!p=1");
    }

    @Says("At most 5 of ! and ( are open")
    void p03_aSixthNotIsAFault() {
        faults("bold 1 !!!!!!p=1", 12);
        faults("bold 1 !!!!!(p=1)", 12);
    }

    @Says("At most 5 of ! and ( are open")
    void p03_bothTogetherAreOpen() {
        reads("bold 1 !(!(!p=1))");
        reads("bold 1 (!(!(p=1)))");
        faults("bold 1 !(!(!(p=1)))", 12);
        faults("bold 1 (!(!(!p=1)))", 12);
    }

    @Says("(a ( till its ) , a ! till its F ends)")
    void p03_aBracketIsOpenTillItsEnd() {
        reads("bold 1 (((((p=1)))))&(((((p=2)))))|(((((p=3)))))");
        reads("bold 1 ((((p=1)&(p=2)|(p=3)))&!p=4)");
        faults("bold 1 ((((p=1&((p=2))))))", 16);
    }

    @Says("(a ( till its ) , a ! till its F ends)")
    void p03_aNotIsOpenTillItsFEnds() {
        reads("bold 1 !!!!!p=1&!!!!!p=2|!!!!!p=3");
        reads("bold 1 !p=1&!p=2&!p=3&!p=4&!p=5&!p=6&!p=7");
        reads("bold 1 !(!(p=1)&!p=2&!p=3&!p=4&!p=5&!p=6)");
        faults("bold 1 !!!!(p=1&!p=2)", 16);
        reads("bold 1 !!!(p=1&!p=2)");
    }

    @Says("At most 5 of ! and ( are open")
    void p03_eachClauseBeginsWithNoneOpen() {
        reads("bold 1 !!!!!p=1;meek 1 (((((p=1)))))");
    }

    // ---- promise 3: where a fault is

    @Says("FAULT: the place of the first byte with which no VILLAGE can go on (the size, if it ends too early).")
    void p03_anEmptyTapeEndsTooEarly() {
        is(x.village(), -10);
        is(x.count(1), 0);
    }

    @Says("FAULT: the place of the first byte with which no VILLAGE can go on (the size, if it ends too early).")
    void p03_aFaultAtTheFirstByte() {
        faults("Q", 0);
        faults("\0", 0);
        faults("\u007f", 0);
        faults("1", 0);
    }

    @Says("FAULT: the place of the first byte with which no VILLAGE can go on (the size, if it ends too early).")
    void p03_theFirstOfTwoFaults() {
        faults("olx 1;;", 2);
        faults("bold 01 q=1", 6);
    }

    @Says("FAULT: the place of the first byte with which no VILLAGE can go on (the size, if it ends too early).")
    void p03_byte0BehindAVillage() {
        faults("old 1\0", 5);
        faults("old 12\0", 6);
        faults("bold 1 p=1\0", 10);
    }

    /** Of 100 signs. */
    private static final String HUNDRED = "bold 10 p=0" + "|p=1".repeat(22) + "9";

    @Says("A VILLAGE is read from THE TAPE (bytes, 100 at most)")
    void p03_hundredBytes() {
        is(HUNDRED.length(), 100);
        reads(HUNDRED);
        x.person(0, 0, 60, 90);
        String lastHolds = "bold 10 p=9|p=99" + "|p=1".repeat(20) + "|p=0";
        is(lastHolds.length(), 100);
        is(village(lastHolds), 0);
        is(x.of(0, 8), 20);
    }

    @Says("A VILLAGE is read from THE TAPE (bytes, 100 at most)")
    void p03_aFaultAtTheHundredthByte() {
        faults(HUNDRED.substring(0, 99) + "x", 99);
        faults(HUNDRED.substring(0, 99) + ")", 99);
    }

    @Says("(the size, if it ends too early)")
    void p03_hundredBytesEndTooEarly() {
        faults(HUNDRED.substring(0, 99) + "|", 100);
        faults(HUNDRED.substring(0, 99) + ";", 100);
    }

    @Says("(the size, if it ends too early)")
    void p03_theSizeIfItEndsTooEarly() {
        String text = "grown 1;bold 1 !(p=1)";
        for (int size : new int[] {0, 1, 3, 5, 6, 8, 9, 12, 13, 14, 15, 16, 17, 18, 19, 20}) {
            faults(text.substring(0, size), size);
        }
        reads(text.substring(0, 7));
        reads(text);
    }
}
