/** Promises 4 to 14: people, vintages, what changes them. */
final class PeopleSentences extends Sentences {

    /** One who is plainly here: 40 years old. */
    private int one(int kind) {
        return x.person(kind, 3, 60, 90);
    }

    private static DrunkByYear sixPeople() {
        DrunkByYear x = rich();
        x.person(2, 5, 80, 70);
        x.person(5, 6, 90, 80);
        return x;
    }

    private static DrunkByYear fiveVintages() {
        DrunkByYear x = rich();
        x.vintage(100, 1);
        x.vintage(101, 1);
        return x;
    }

    // ---- promise 4: person

    @Says("PEOPLE are numbered from 0 on, 6 at most")
    void p04_theFirstIsNumber0() {
        is(one(0), 0);
        is(one(0), 1);
    }

    @Says("PEOPLE are numbered from 0 on, 6 at most")
    void p04_theSixthIsNumber5() {
        times(5, () -> one(0));
        is(x.person(6, 9, 199, 120), 5);
        is(x.of(5, 0), 6);
        is(x.count(0), 6);
    }

    @Says("FULL: 6.")
    void p04_theSeventhIsFull() {
        is(sixPeople().count(0), 6);
        unchanged(PeopleSentences::sixPeople, x -> x.person(0, 0, 0, 0), FULL);
    }

    @Says("NONE: kind")
    void p04_kindTooSmall() {
        unchanged(x -> x.person(-1, 0, 0, 0), NONE);
        unchanged(x -> x.person(MIN, 0, 0, 0), NONE);
    }

    @Says("NONE: kind")
    void p04_kindTooLarge() {
        unchanged(x -> x.person(7, 0, 0, 0), NONE);
        unchanged(x -> x.person(MAX, 0, 0, 0), NONE);
    }

    @Says("each of a KIND: 0 PERSON")
    void p04_kinds0To6() {
        for (int kind = 0; kind <= 6; kind++) {
            x = new DrunkByYear();
            is(one(kind), 0);
            is(x.of(0, 0), kind);
        }
    }

    @Says("BAD: v, born, life")
    void p04_vTooSmall() {
        unchanged(x -> x.person(0, -1, 0, 0), BAD);
        unchanged(x -> x.person(0, MIN, 0, 0), BAD);
    }

    @Says("BAD: v, born, life")
    void p04_vTooLarge() {
        unchanged(x -> x.person(0, 10, 0, 0), BAD);
        unchanged(x -> x.person(0, MAX, 0, 0), BAD);
    }

    @Says("a number v (0 .. 9)")
    void p04_v0AndV9() {
        is(x.person(0, 0, 60, 90), 0);
        is(x.person(0, 9, 60, 90), 1);
        is(x.of(0, 1), 0);
        is(x.of(1, 1), 9);
    }

    @Says("BAD: v, born, life")
    void p04_bornTooEarly() {
        unchanged(x -> x.person(0, 0, -1, 0), BAD);
        unchanged(x -> x.person(0, 0, MIN, 0), BAD);
    }

    @Says("BAD: v, born, life")
    void p04_bornTooLate() {
        unchanged(x -> x.person(0, 0, 200, 0), BAD);
        unchanged(x -> x.person(0, 0, MAX, 0), BAD);
    }

    @Says("BORN (a year, 0 .. 199)")
    void p04_born0And199() {
        is(x.person(0, 0, 0, 90), 0);
        is(x.person(0, 0, 199, 90), 1);
        is(x.of(0, 2), 0);
        is(x.of(1, 2), 199);
    }

    @Says("BAD: v, born, life")
    void p04_lifeTooShort() {
        unchanged(x -> x.person(0, 0, 0, -1), BAD);
        unchanged(x -> x.person(0, 0, 0, MIN), BAD);
    }

    @Says("BAD: v, born, life")
    void p04_lifeTooLong() {
        unchanged(x -> x.person(0, 0, 0, 121), BAD);
        unchanged(x -> x.person(0, 0, 0, MAX), BAD);
    }

    @Says("LIFE (how many years it lives: 0 .. 120)")
    void p04_life0And120() {
        is(x.person(0, 0, 60, 0), 0);
        is(x.person(0, 0, 60, 120), 1);
        is(x.of(0, 3), 0);
        is(x.of(1, 3), 120);
    }

    @Says("HAS (which vintage it drank; none at first)")
    void p04_hasNoneAtFirst() {
        x.vintage(80, 1);
        one(0);
        is(x.of(0, 4), NOTHING);
        is(x.of(0, 5), 40);
    }

    @Says("HAS (which vintage it drank; none at first)")
    void p04_hasNoneAtFirstWhereAnotherHadOne() {
        x.vintage(80, 1);
        x.image();
        one(6);
        x.row(0, 0, 5);
        x.pour(0, 0);
        x.undo();
        one(6);
        is(x.of(0, 4), NOTHING);
        is(x.row(0, 0, 0), 0);
    }

    @Says("One of PEOPLE: its number.")
    void p04_allAsGiven() {
        x.person(0, 1, 2, 3);
        is(x.person(5, 4, 70, 80), 1);
        int[] due = {5, 4, 70, 80};
        for (int what = 0; what <= 3; what++) {
            is(x.of(1, what), due[what]);
        }
    }

    @Says("REFUSALS, of several the first one told")
    void p04_noneAheadOfBad() {
        unchanged(x -> x.person(7, 10, 200, 121), NONE);
        unchanged(x -> x.person(-1, -1, -1, -1), NONE);
    }

    @Says("REFUSALS, of several the first one told")
    void p04_noneAheadOfFull() {
        unchanged(PeopleSentences::sixPeople, x -> x.person(7, 0, 0, 0), NONE);
    }

    @Says("REFUSALS, of several the first one told")
    void p04_badAheadOfFull() {
        unchanged(PeopleSentences::sixPeople, x -> x.person(0, 10, 0, 0), BAD);
        unchanged(PeopleSentences::sixPeople, x -> x.person(0, 0, 200, 0), BAD);
        unchanged(PeopleSentences::sixPeople, x -> x.person(0, 0, 0, 121), BAD);
    }

    // ---- promise 5: vintage

    @Says("VINTAGES are numbered from 0 on, 5 at most")
    void p05_theFirstIsNumber0() {
        is(x.vintage(1, 1), 0);
        is(x.vintage(1, 1), 1);
    }

    @Says("VINTAGES are numbered from 0 on, 5 at most")
    void p05_theFifthIsNumber4() {
        times(4, () -> x.vintage(1, 1));
        is(x.vintage(7, 8), 4);
        is(x.wine(4, 0), 7);
        is(x.count(7), 5);
    }

    @Says("FULL: 5.")
    void p05_theSixthIsFull() {
        is(fiveVintages().count(7), 5);
        unchanged(PeopleSentences::fiveVintages, x -> x.vintage(0, 0), FULL);
    }

    @Says("FULL: 5.")
    void p05_blendedOnesCountToo() {
        times(4, () -> x.vintage(1, 5));
        is(x.blend(0, 1), 4);
        is(x.vintage(1, 1), FULL);
    }

    @Says("BAD: year, bottles")
    void p05_yearTooEarly() {
        unchanged(x -> x.vintage(-1, 0), BAD);
        unchanged(x -> x.vintage(MIN, 0), BAD);
    }

    @Says("BAD: year, bottles")
    void p05_yearTooLate() {
        unchanged(x -> x.vintage(200, 0), BAD);
        unchanged(x -> x.vintage(MAX, 0), BAD);
    }

    @Says("each of a year (0 .. 199) with BOTTLES (0 .. 99)")
    void p05_year0And199() {
        is(x.vintage(0, 1), 0);
        is(x.vintage(199, 1), 1);
        is(x.wine(0, 0), 0);
        is(x.wine(1, 0), 199);
    }

    @Says("BAD: year, bottles")
    void p05_tooFewBottles() {
        unchanged(x -> x.vintage(0, -1), BAD);
        unchanged(x -> x.vintage(0, MIN), BAD);
    }

    @Says("BAD: year, bottles")
    void p05_tooManyBottles() {
        unchanged(x -> x.vintage(0, 100), BAD);
        unchanged(x -> x.vintage(0, MAX), BAD);
    }

    @Says("each of a year (0 .. 199) with BOTTLES (0 .. 99)")
    void p05_bottles0And99() {
        is(x.vintage(1, 0), 0);
        is(x.vintage(1, 99), 1);
        is(x.wine(0, 1), 0);
        is(x.wine(1, 1), 99);
    }

    @Says("One of VINTAGES: its number.")
    void p05_allAsGiven() {
        x.vintage(1, 2);
        x.vintage(150, 60);
        is(x.wine(1, 0), 150);
        is(x.wine(1, 1), 60);
    }

    @Says("REFUSALS, of several the first one told")
    void p05_badAheadOfFull() {
        unchanged(PeopleSentences::fiveVintages, x -> x.vintage(200, 0), BAD);
        unchanged(PeopleSentences::fiveVintages, x -> x.vintage(0, 100), BAD);
    }

    // ---- promise 6: of, and what is refused

    @Says("-10001: NONE.")
    void p06_noSuchPerson() {
        noSuch(4, (x, n) -> x.of(n, 0), UNKNOWN);
        unchanged(PeopleSentences::sixPeople, x -> x.of(6, 0), UNKNOWN);
        is(x.of(0, 0), UNKNOWN);
    }

    @Says("-10001: NONE.")
    void p06_noSuchWhat() {
        noSuch(9, (x, n) -> x.of(0, n), UNKNOWN);
    }

    @Says("Of a PERSON what 0 KIND, 1 v, 2 BORN, 3 LIFE")
    void p06_ofTheLastOfSix() {
        int[] due = {5, 6, 90, 80, NOTHING, 10, 1, 1, 10};
        for (int what = 0; what <= 8; what++) {
            is(sixPeople().of(5, what), due[what]);
        }
    }

    @Says("4 which vintage it HAS (-5: none)")
    void p06_hasNone() {
        one(0);
        is(x.of(0, 4), NOTHING);
        x.vintage(80, 1);
        x.pour(0, 0);
        is(x.of(0, 4), 0);
        x.dry(0);
        is(x.of(0, 4), NOTHING);
    }

    // ---- promise 6: ages

    /** The AGE of one, 40 years old without, with v 3, by wine of a year. */
    private int ageBy(int kind, int year) {
        x = new DrunkByYear();
        one(kind);
        x.vintage(year, 1);
        x.pour(0, 0);
        return x.of(0, 5);
    }

    @Says("TRUE age of one: YEAR less BORN.")
    void p06_trueAgeOfThoseNotYetBorn() {
        x.person(0, 0, 100, 90);
        x.person(0, 0, 199, 90);
        x.person(0, 0, 0, 90);
        is(x.of(0, 5), 0);
        is(x.of(1, 5), -99);
        is(x.of(2, 5), 100);
    }

    @Says("AGE of one that HAS none: TRUE.")
    void p06_ageByNoneOfEachKind() {
        for (int kind = 0; kind <= 6; kind++) {
            x = new DrunkByYear();
            one(kind);
            is(x.of(0, 5), 40);
        }
    }

    @Says("AGE of one that HAS a vintage of year y: PERSON: y less BORN.")
    void p06_ageOfAPerson() {
        is(ageBy(0, 70), 10);
        is(ageBy(0, 60), 0);
        is(ageBy(0, 0), -60);
        is(ageBy(0, 199), 139);
    }

    @Says("HEAVY: as PERSON, v less.")
    void p06_ageOfAHeavyOne() {
        is(ageBy(1, 70), 7);
        is(ageBy(1, 0), -63);
        is(ageBy(1, 199), 136);
    }

    @Says("LIGHT: TRUE, and the half (cut toward 0) of y less YEAR.")
    void p06_ageOfALightOneIsCutToward0() {
        is(ageBy(2, 100), 40);
        is(ageBy(2, 101), 40);
        is(ageBy(2, 99), 40);
        is(ageBy(2, 102), 41);
        is(ageBy(2, 98), 39);
        is(ageBy(2, 103), 41);
        is(ageBy(2, 97), 39);
        is(ageBy(2, 199), 89);
        is(ageBy(2, 0), -10);
        is(ageBy(2, 1), -9);
    }

    @Says("LIGHT: TRUE, and the half (cut toward 0) of y less YEAR.")
    void p06_ageOfALightOneGoesByTheYear() {
        one(2);
        x.vintage(90, 9);
        x.dawn(5);
        x.pour(0, 0);
        is(x.of(0, 5), 38);
    }

    @Says("STEADY: TRUE.")
    void p06_ageOfASteadyOne() {
        is(ageBy(3, 0), 40);
        is(ageBy(3, 199), 40);
    }

    @Says("DEEP: as HEAVY, and once more v less.")
    void p06_ageOfADeepOne() {
        is(ageBy(4, 70), 4);
        is(ageBy(4, 0), -66);
        x = new DrunkByYear();
        x.person(4, 9, 199, 90);
        x.vintage(0, 1);
        is(x.pour(0, 0), 0);
        is(x.of(0, 5), -217);
    }

    @Says("SIPPING: as LIGHT, but TRUE at most.")
    void p06_ageOfASippingOneIsTrueAtMost() {
        is(ageBy(5, 102), 40);
        is(ageBy(5, 199), 40);
        is(ageBy(5, 100), 40);
        is(ageBy(5, 99), 40);
        is(ageBy(5, 98), 39);
        is(ageBy(5, 1), -9);
    }

    @Says("TOLD: as STEADY, less its ROW at y modulo 4.")
    void p06_ageOfAToldOneByEachOfItsRow() {
        for (int y : new int[] {0, 1, 2, 3, 4, 100, 101, 102, 103, 196, 199}) {
            x = new DrunkByYear();
            one(6);
            for (int k = 0; k <= 3; k++) {
                x.row(0, k, 6 + k);
            }
            x.vintage(y, 1);
            x.pour(0, 0);
            is(x.of(0, 5), 40 - 6 - y % 4);
        }
    }

    @Says("TOLD: as STEADY, less its ROW at y modulo 4.")
    void p06_ageOfAToldOneByItsRowOf0() {
        is(ageBy(6, 71), 40);
    }

    // ---- promise 6: who is here, of which stage

    private void hereAt(int age, int life, int here) {
        x = new DrunkByYear();
        x.person(0, 0, 100 - age, life);
        is(x.of(0, 6), here);
        is(x.told(3), here);
    }

    @Says("One is HERE, if its AGE is 0 .. LIFE.")
    void p06_atMinusOneNotHere() {
        hereAt(-1, 90, 0);
    }

    @Says("One is HERE, if its AGE is 0 .. LIFE.")
    void p06_atZeroHere() {
        hereAt(0, 90, 1);
    }

    @Says("One is HERE, if its AGE is 0 .. LIFE.")
    void p06_atLifeHere() {
        hereAt(40, 40, 1);
        hereAt(100, 100, 1);
    }

    @Says("One is HERE, if its AGE is 0 .. LIFE.")
    void p06_beyondLifeNotHere() {
        hereAt(41, 40, 0);
    }

    @Says("One is HERE, if its AGE is 0 .. LIFE.")
    void p06_aLifeOf0() {
        hereAt(0, 0, 1);
        hereAt(1, 0, 0);
        hereAt(-1, 0, 0);
    }

    @Says("One is HERE, if its AGE is 0 .. LIFE.")
    void p06_byAgeNotByTrueAge() {
        x.person(0, 0, 60, 30);
        x.person(0, 0, 110, 30);
        x.vintage(90, 1);
        x.vintage(110, 1);
        is(x.of(0, 6), 0);
        is(x.of(1, 6), 0);
        x.pour(0, 0);
        x.pour(1, 1);
        is(x.of(0, 6), 1);
        is(x.of(1, 6), 1);
    }

    private void stageAt(int age, String village, int stage) {
        x = new DrunkByYear();
        x.person(0, 0, 100 - age, 95);
        if (!village.isEmpty()) {
            is(village(village), 0);
        }
        is(x.of(0, 7), stage);
    }

    @Says("STAGE: 0 it is not HERE; else 1, if AGE is less than GROWN; 3, if not, and AGE is OLD or more; else 2.")
    void p06_notHereNoStage() {
        stageAt(-1, "", 0);
        stageAt(96, "", 0);
        stageAt(-1, "grown 0;old 0", 0);
    }

    @Says("else 1, if AGE is less than GROWN")
    void p06_lessThanGrown() {
        stageAt(0, "", 1);
        stageAt(17, "", 1);
        stageAt(24, "grown 25", 1);
    }

    @Says("else 1, if AGE is less than GROWN")
    void p06_justGrown() {
        stageAt(18, "", 2);
        stageAt(25, "grown 25", 2);
        stageAt(0, "grown 0", 2);
    }

    @Says("3, if not, and AGE is OLD or more")
    void p06_notYetOld() {
        stageAt(59, "", 2);
        stageAt(69, "old 70", 2);
    }

    @Says("3, if not, and AGE is OLD or more")
    void p06_justOld() {
        stageAt(60, "", 3);
        stageAt(70, "old 70", 3);
        stageAt(0, "grown 0;old 0", 3);
    }

    @Says("3, if not, and AGE is OLD or more")
    void p06_oldAheadOfGrown() {
        stageAt(59, "old 10;grown 60", 1);
        stageAt(60, "old 10;grown 60", 3);
        stageAt(60, "old 60;grown 60", 3);
        stageAt(5, "old 10;grown 60", 1);
    }

    // ---- promise 6: nerve

    /** The NERVE of number 1, KIND 4 with v 7, 45 years old; others are 0 years old. */
    private void nerve(String village, int due) {
        x = new DrunkByYear();
        x.person(0, 0, 100, 90);
        x.person(4, 7, 55, 110);
        x.vintage(169, 1);
        x.vintage(169, 1);
        is(village(village), 0);
        is(x.of(1, 8), due);
    }

    @Says("NERVE of one: 0, if it is not HERE")
    void p06_noNerveIfNotHere() {
        x.person(0, 0, 101, 90);
        is(x.of(0, 8), 0);
        village("bold 99 p=0");
        is(x.of(0, 8), 0);
    }

    @Says("else 10, and the n of all bold whose E holds, less those of all meek, together (0 at least)")
    void p06_nerve10WithoutClauses() {
        one(0);
        is(x.of(0, 8), 10);
        village("old 50");
        is(x.of(0, 8), 10);
    }

    @Says("else 10, and the n of all bold whose E holds, less those of all meek, together (0 at least)")
    void p06_nerveOfAllThatHold() {
        nerve("bold 5 p=1;bold 7 k=4;bold 50 p=0", 22);
        nerve("bold 9 p=1;meek 4 k=4;meek 50 p=0", 15);
        nerve("bold 0 p=1", 10);
        nerve("bold 99 p=1;bold 99 p=1", 208);
    }

    @Says("else 10, and the n of all bold whose E holds, less those of all meek, together (0 at least)")
    void p06_nerve0AtLeast() {
        nerve("meek 9 p=1", 1);
        nerve("meek 10 p=1", 0);
        nerve("meek 11 p=1", 0);
        nerve("meek 99 p=1;meek 99 p=1", 0);
    }

    @Says("else 10, and the n of all bold whose E holds, less those of all meek, together (0 at least)")
    void p06_nerveTogetherInWhichOrderEver() {
        nerve("meek 40 p=1;bold 35 p=1", 5);
        nerve("bold 35 p=1;meek 40 p=1", 5);
        nerve("meek 30 p=1;bold 9 p=1;meek 1 p=1", 0);
    }

    @Says("of one of PEOPLE p its number, k its KIND, v its v")
    void p06_testsOfNumberKindAndV() {
        nerve("bold 1 p=1;bold 2 p<2;bold 4 p>0;bold 8 p<1;bold 16 p>1", 17);
        nerve("bold 1 k=4;bold 2 k<5;bold 4 k>3;bold 8 k<4;bold 16 k>4", 17);
        nerve("bold 1 v=7;bold 2 v<8;bold 4 v>6;bold 8 v<7;bold 16 v>7", 17);
    }

    @Says("of one of PEOPLE p its number, k its KIND, v its v")
    void p06_testsByNumbersThatNoneHas() {
        nerve("bold 1 p<99;bold 2 k<99;bold 4 v<10;bold 8 v=10;bold 16 p>0", 33);
        nerve("bold 1 p<0;bold 2 k<0;bold 4 v<0", 10);
    }

    @Says("of one of PEOPLE p its number, k its KIND, v its v")
    void p06_testsByTheMostNumber() {
        for (char letter : "pkvash".toCharArray()) {
            nerve("bold 1 " + letter + "<99;bold 2 " + letter + "=99;bold 4 " + letter + ">99", 11);
            nerve("bold 1 " + letter + "<0;bold 2 " + letter + ">98", 10);
        }
    }

    private void nerveAt(int age, String village, int due) {
        x = new DrunkByYear();
        x.person(0, 0, 100 - age, 120);
        is(village(village), 0);
        is(x.of(0, 8), due);
    }

    @Says("a its AGE by 10 (cut; 0 if less than 0)")
    void p06_testsOfTheAgeAreCut() {
        nerveAt(0, "bold 5 a=0", 15);
        nerveAt(9, "bold 5 a=0", 15);
        nerveAt(10, "bold 5 a=1", 15);
        nerveAt(19, "bold 5 a=1", 15);
        nerveAt(20, "bold 5 a>1", 15);
        nerveAt(19, "bold 5 a>1", 10);
        nerveAt(100, "bold 5 a=10", 15);
        nerveAt(20, "bold 5 a=20", 10);
    }

    @Says("a its AGE by 10 (cut; 0 if less than 0)")
    void p06_testsOfTheAgeGoByTheWine() {
        nerve("bold 5 a=4", 15);
        x.pour(1, 0);
        is(x.of(1, 5), 100);
        is(x.of(1, 8), 10);
        village("bold 5 a=10");
        is(x.of(1, 8), 15);
    }

    @Says("s its STAGE")
    void p06_testsOfTheStage() {
        nerveAt(17, "bold 1 s=1;bold 2 s=2;bold 4 s=3;bold 8 s=0", 11);
        nerveAt(18, "bold 1 s=1;bold 2 s=2;bold 4 s=3;bold 8 s=0", 12);
        nerveAt(60, "bold 1 s=1;bold 2 s=2;bold 4 s=3;bold 8 s=0", 14);
        nerveAt(60, "bold 5 s=2;old 70", 15);
    }

    @Says("h which vintage it HAS (9: none)")
    void p06_testsOfWhatItHas() {
        nerve("bold 1 h=9;bold 2 h>8;bold 4 h<9;bold 8 h=0;bold 16 h=1", 13);
        x.pour(1, 0);
        is(x.of(1, 8), 22);
        x.pour(1, 1);
        is(x.of(1, 8), 30);
    }

    @Says("F: !F, (E), or a TEST")
    void p06_notsAndBrackets() {
        nerve("bold 1 !p=1;bold 2 !p=0;bold 4 !!p=1;bold 8 !!!p=1", 16);
        nerve("bold 1 !(p=0|k=0);bold 2 !(p=1|k=0);bold 4 (p=1)", 15);
        nerve("bold 1 !p=0&p=0;bold 2 !(p=0&p=0)", 12);
        nerve("bold 1 !p=1|p=1;bold 2 !(p=1|p=1)", 11);
    }

    @Says("E: T, or T|E.")
    void p06_andAheadOfOr() {
        nerve("bold 1 p=1|k=0&v=0", 11);
        nerve("bold 1 (p=1|k=0)&v=0", 10);
        nerve("bold 1 v=0&k=0|p=1", 11);
        nerve("bold 1 v=0&(k=0|p=1)", 10);
        nerve("bold 1 p=0|k=4&v=7|s=0", 11);
        nerve("bold 1 p=0|k=4&v=6|s=0", 10);
        nerve("bold 1 p=1&k=4&v=7&s=2&h=9", 11);
        nerve("bold 1 p=1&k=4&v=7&s=2&h=8", 10);
    }

    @Says("E: T, or T|E.")
    void p06_bothSidesOfBoth() {
        nerve("bold 1 p=1|p=1;bold 2 p=1|p=0;bold 4 p=0|p=1;bold 8 p=0|p=0", 17);
        nerve("bold 1 p=1&p=1;bold 2 p=1&p=0;bold 4 p=0&p=1;bold 8 p=0&p=0", 11);
    }

    @Says("At most 5 of ! and ( are open")
    void p06_fiveOpenOnes() {
        nerve("bold 5 p=0|(p=0|(p=0|(p=0|(p=0|(p=1)))))", 15);
        nerve("bold 5 p=1&(p=1&(p=1&(p=1&(p=1&(p=0)))))", 10);
        nerve("bold 5 p=0|p=1&(p=0|p=1&(p=0|p=1&(p=0|p=1&(p=0|p=1&(p=0|p=1&k=4)))))", 15);
        nerve("bold 5 p=0|p=1&(p=0|p=1&(p=0|p=1&(p=0|p=1&(p=0|p=1&(p=0|p=1&k=3)))))", 10);
        nerve("bold 5 !!!!!p=0;bold 9 !!!!!p=1", 15);
    }

    // ---- promise 7: row

    @Says("TOLD ones a ROW of four numbers (0 .. 9; 0 at first)")
    void p07_zeroAtFirst() {
        one(6);
        for (int k = 0; k <= 3; k++) {
            is(x.row(0, k, 9), 0);
        }
    }

    @Says("The ROW of a TOLD one becomes n (0 .. 9) for years modulo 4 being k: what it was.")
    void p07_whatItWas() {
        one(6);
        for (int k = 0; k <= 3; k++) {
            x.row(0, k, 9 - k);
        }
        for (int k = 0; k <= 3; k++) {
            is(x.row(0, k, 0), 9 - k);
        }
    }

    @Says("The ROW of a TOLD one becomes n (0 .. 9) for years modulo 4 being k: what it was.")
    void p07_eachHasItsOwn() {
        one(6);
        one(6);
        x.row(0, 2, 7);
        is(x.row(1, 2, 5), 0);
        is(x.row(0, 2, 0), 7);
    }

    @Says("TOLD ones a ROW of four numbers (0 .. 9; 0 at first)")
    void p07_n0AndN9() {
        one(6);
        is(x.row(0, 0, 9), 0);
        is(x.row(0, 0, 0), 9);
        is(x.row(0, 0, 0), 0);
    }

    @Says("NONE: person, k")
    void p07_noSuchPerson() {
        noSuch(4, (x, n) -> x.row(n, 0, 1), NONE);
    }

    @Says("NONE: person, k")
    void p07_noSuchK() {
        noSuch(4, (x, n) -> x.row(2, n, 1), NONE);
    }

    @Says("BAD;")
    void p07_nTooSmall() {
        unchanged(x -> x.row(2, 0, -1), BAD);
        unchanged(x -> x.row(2, 0, MIN), BAD);
    }

    @Says("BAD;")
    void p07_nTooLarge() {
        unchanged(x -> x.row(2, 3, 10), BAD);
        unchanged(x -> x.row(2, 3, MAX), BAD);
    }

    @Says("STATE: another KIND.")
    void p07_anotherKind() {
        for (int kind = 0; kind <= 5; kind++) {
            int of = kind;
            unchanged(() -> {
                DrunkByYear x = new DrunkByYear();
                x.person(of, 1, 60, 90);
                return x;
            }, x -> x.row(0, 0, 1), STATE);
        }
    }

    @Says("REFUSALS, of several the first one told")
    void p07_noneAheadOfBad() {
        unchanged(x -> x.row(4, 0, 10), NONE);
        unchanged(x -> x.row(2, 4, 10), NONE);
        unchanged(x -> x.row(0, 4, 10), NONE);
    }

    @Says("REFUSALS, of several the first one told")
    void p07_noneAndBadAheadOfState() {
        unchanged(x -> x.row(0, 4, 0), NONE);
        unchanged(x -> x.row(0, 0, 10), BAD);
        unchanged(x -> x.row(0, 0, -1), BAD);
    }

    // ---- promise 8: wine

    @Says("Of a VINTAGE what 0 its year, 1 BOTTLES. NONE.")
    void p08_noSuchVintage() {
        noSuch(3, (x, n) -> x.wine(n, 0), NONE);
        unchanged(PeopleSentences::fiveVintages, x -> x.wine(5, 0), NONE);
        is(x.wine(0, 0), NONE);
    }

    @Says("Of a VINTAGE what 0 its year, 1 BOTTLES. NONE.")
    void p08_noSuchWhat() {
        noSuch(2, (x, n) -> x.wine(0, n), NONE);
    }

    @Says("Of a VINTAGE what 0 its year, 1 BOTTLES. NONE.")
    void p08_ofTheLastOfFive() {
        is(fiveVintages().wine(4, 0), 101);
        is(fiveVintages().wine(4, 1), 1);
        unchanged(x -> x.wine(0, 1), 2);
    }

    // ---- promise 9: stock

    @Says("BOTTLES of one become n (0 .. 99): what they were.")
    void p09_n0AndN99() {
        x.vintage(80, 5);
        x.vintage(90, 6);
        is(x.stock(0, 99), 5);
        is(x.wine(0, 1), 99);
        is(x.stock(0, 0), 99);
        is(x.wine(0, 1), 0);
        is(x.stock(0, 1), 0);
        is(x.wine(1, 1), 6);
    }

    @Says("NONE; BAD.")
    void p09_noSuchVintage() {
        noSuch(3, (x, n) -> x.stock(n, 0), NONE);
        is(x.stock(0, 0), NONE);
    }

    @Says("NONE; BAD.")
    void p09_tooFew() {
        unchanged(x -> x.stock(0, -1), BAD);
        unchanged(x -> x.stock(0, MIN), BAD);
    }

    @Says("NONE; BAD.")
    void p09_tooMany() {
        unchanged(x -> x.stock(0, 100), BAD);
        unchanged(x -> x.stock(0, MAX), BAD);
    }

    @Says("NONE; BAD.")
    void p09_noneAheadOfBad() {
        unchanged(x -> x.stock(3, 100), NONE);
        unchanged(x -> x.stock(-1, -1), NONE);
    }

    // ---- promise 10: told

    @Says("What 0 YEAR, 1 GROWN, 2 OLD, 3 who is HERE (bits), 4 NERVE of all, 5 BOTTLES in all.")
    void p10_whereNobodyIs() {
        int[] due = {100, 18, 60, 0, 0, 0};
        for (int what = 0; what <= 5; what++) {
            is(x.told(what), due[what]);
        }
    }

    @Says("What 0 YEAR, 1 GROWN, 2 OLD, 3 who is HERE (bits), 4 NERVE of all, 5 BOTTLES in all.")
    void p10_whereAllAre() {
        times(6, () -> one(0));
        times(5, () -> x.vintage(80, 99));
        village("bold 5 p=5");
        is(x.told(3), 63);
        is(x.told(4), 65);
        is(x.told(5), 495);
    }

    @Says("What 0 YEAR, 1 GROWN, 2 OLD, 3 who is HERE (bits), 4 NERVE of all, 5 BOTTLES in all.")
    void p10_theNerveOfAllIsOfThoseHere() {
        x.person(0, 0, 101, 90);
        one(0);
        one(0);
        village("bold 99 p=0;meek 50 p=1;bold 3 p=2");
        is(x.told(3), 6);
        is(x.told(4), 13);
    }

    @Says("NONE.")
    void p10_noSuchWhat() {
        noSuch(6, (x, n) -> x.told(n), NONE);
    }

    @Says("What 0 YEAR, 1 GROWN, 2 OLD, 3 who is HERE (bits), 4 NERVE of all, 5 BOTTLES in all.")
    void p10_changesNothing() {
        int[] due = {100, 20, 50, 15, 50, 3};
        for (int what = 0; what <= 5; what++) {
            int asked = what;
            unchanged(x -> x.told(asked), due[what]);
        }
    }

    // ---- promise 11: pour

    @Says("NONE; STATE: it has no BOTTLES.")
    void p11_noSuchPerson() {
        noSuch(4, (x, n) -> x.pour(n, 0), NONE);
    }

    @Says("NONE; STATE: it has no BOTTLES.")
    void p11_noSuchVintage() {
        noSuch(3, (x, n) -> x.pour(0, n), NONE);
    }

    @Says("STATE: it has no BOTTLES.")
    void p11_noBottles() {
        unchanged(x -> x.pour(0, 2), STATE);
        unchanged(x -> x.pour(1, 2), STATE);
    }

    @Says("NONE; STATE: it has no BOTTLES.")
    void p11_noneAheadOfState() {
        unchanged(x -> x.pour(4, 2), NONE);
    }

    @Says("One is POURED a vintage: BOTTLES of it are 1 less, it HAS that (whatever it had).")
    void p11_theLastBottle() {
        one(0);
        one(0);
        x.vintage(80, 1);
        is(x.pour(0, 0), 2);
        is(x.wine(0, 1), 0);
        is(x.of(0, 4), 0);
        is(x.pour(1, 0), STATE);
        is(x.of(1, 4), NOTHING);
    }

    @Says("it HAS that (whatever it had)")
    void p11_whateverItHad() {
        one(0);
        x.vintage(80, 3);
        x.vintage(70, 1);
        x.pour(0, 0);
        is(x.pour(0, 1), 1);
        is(x.of(0, 4), 1);
        is(x.wine(0, 1), 2);
        is(x.wine(1, 1), 0);
    }

    @Says("it HAS that (whatever it had)")
    void p11_theSameOnceMore() {
        one(0);
        x.vintage(80, 3);
        x.pour(0, 0);
        is(x.pour(0, 0), 2);
        is(x.of(0, 4), 0);
        is(x.wine(0, 1), 1);
    }

    @Says("One is POURED a vintage: its STAGE then.")
    void p11_itsStageThen() {
        one(0);
        x.vintage(59, 1);
        x.vintage(60, 1);
        x.vintage(78, 1);
        x.vintage(120, 1);
        x.vintage(151, 1);
        int[] stages = {0, 1, 2, 3, 0};
        for (int w = 0; w < 5; w++) {
            is(x.pour(0, w), stages[w]);
        }
    }

    @Says("One is POURED a vintage: its STAGE then.")
    void p11_oneWhoIsNotHere() {
        x.person(0, 0, 120, 90);
        x.vintage(130, 2);
        is(x.pour(0, 0), 1);
        is(x.of(0, 6), 1);
    }

    // ---- promise 12: dry

    @Says("One HAS none: what it had (-5).")
    void p12_itHadNone() {
        unchanged(x -> x.dry(1), NOTHING);
    }

    @Says("One HAS none: what it had (-5).")
    void p12_itHadOne() {
        one(0);
        x.vintage(80, 1);
        x.vintage(80, 1);
        x.pour(0, 1);
        is(x.dry(0), 1);
        is(x.of(0, 4), NOTHING);
        x.pour(0, 0);
        is(x.dry(0), 0);
        is(x.dry(0), NOTHING);
    }

    @Says("One HAS none: what it had (-5).")
    void p12_theBottleIsNotGivenBack() {
        one(0);
        x.vintage(80, 1);
        x.pour(0, 0);
        x.dry(0);
        is(x.wine(0, 1), 0);
    }

    @Says("NONE.")
    void p12_noSuchPerson() {
        noSuch(4, (x, n) -> x.dry(n), NONE);
        is(x.dry(0), NONE);
    }

    // ---- promise 13: dawn

    private static DrunkByYear inTheYear(int year) {
        DrunkByYear x = rich();
        while (year - x.told(0) > 0) {
            x.dawn(Math.min(99, year - x.told(0)));
        }
        x.pour(0, 0);
        return x;
    }

    @Says("n DAWNS (1 .. 99): YEAR.")
    void p13_oneDawn() {
        is(x.dawn(1), 101);
        is(x.told(0), 101);
    }

    @Says("n DAWNS (1 .. 99): YEAR.")
    void p13_ninetyNineDawns() {
        is(x.dawn(99), 199);
        is(x.told(0), 199);
    }

    @Says("BAD; STATE: YEAR would be above 999.")
    void p13_tooFew() {
        unchanged(x -> x.dawn(0), BAD);
        unchanged(x -> x.dawn(-1), BAD);
        unchanged(x -> x.dawn(MIN), BAD);
    }

    @Says("BAD; STATE: YEAR would be above 999.")
    void p13_tooMany() {
        unchanged(x -> x.dawn(100), BAD);
        unchanged(x -> x.dawn(MAX), BAD);
    }

    @Says("STATE: YEAR would be above 999.")
    void p13_theYear999() {
        is(inTheYear(998).dawn(1), 999);
        is(inTheYear(900).dawn(99), 999);
    }

    @Says("STATE: YEAR would be above 999.")
    void p13_above999() {
        unchanged(() -> inTheYear(999), x -> x.dawn(1), STATE);
        unchanged(() -> inTheYear(998), x -> x.dawn(2), STATE);
        unchanged(() -> inTheYear(901), x -> x.dawn(99), STATE);
    }

    @Says("They change nothing.")
    void p13_refusedAllHaveWhatTheyHad() {
        for (int n : new int[] {-1, 0, 4, 100}) {
            x = inTheYear(996);
            is(x.dawn(n), n == 4 ? STATE : BAD);
            is(x.of(0, 4), 0);
            is(x.told(0), 996);
        }
    }

    @Says("BAD; STATE: YEAR would be above 999.")
    void p13_badAheadOfState() {
        unchanged(() -> inTheYear(999), x -> x.dawn(0), BAD);
        unchanged(() -> inTheYear(999), x -> x.dawn(100), BAD);
    }

    @Says("A DAWN: all HAVE none, YEAR is 1 more.")
    void p13_allHaveNone() {
        times(6, () -> one(0));
        x.vintage(80, 9);
        for (int p = 0; p < 6; p++) {
            x.pour(p, 0);
        }
        x.dawn(1);
        for (int p = 0; p < 6; p++) {
            is(x.of(p, 4), NOTHING);
            is(x.of(p, 5), 41);
        }
        is(x.wine(0, 1), 3);
    }

    // ---- promise 14: blend

    /** The year of a blend of two. */
    private int blended(int one, int other) {
        x = new DrunkByYear();
        x.vintage(one, 1);
        x.vintage(other, 1);
        is(x.blend(0, 1), 2);
        return x.wine(2, 0);
    }

    @Says("NONE; BAD: one is both")
    void p14_noSuchVintage() {
        unchanged(x -> x.blend(-1, 0), NONE);
        unchanged(x -> x.blend(0, -1), NONE);
        unchanged(x -> x.blend(3, 0), NONE);
        unchanged(x -> x.blend(0, 3), NONE);
        unchanged(x -> x.blend(MIN, 0), NONE);
        unchanged(x -> x.blend(0, MAX), NONE);
    }

    @Says("BAD: one is both")
    void p14_oneIsBoth() {
        unchanged(x -> x.blend(0, 0), BAD);
        unchanged(x -> x.blend(1, 1), BAD);
    }

    @Says("STATE: one has no BOTTLES")
    void p14_oneHasNoBottles() {
        unchanged(x -> x.blend(0, 2), STATE);
        unchanged(x -> x.blend(2, 0), STATE);
    }

    @Says("STATE: one has no BOTTLES")
    void p14_bothHaveNoBottles() {
        unchanged(() -> {
            DrunkByYear x = rich();
            x.stock(0, 0);
            return x;
        }, x -> x.blend(0, 2), STATE);
    }

    @Says("FULL: there are 5.")
    void p14_thereAreFive() {
        unchanged(PeopleSentences::fiveVintages, x -> x.blend(0, 1), FULL);
    }

    @Says("FULL: there are 5.")
    void p14_theFifthIsABlend() {
        times(4, () -> x.vintage(80, 3));
        is(x.blend(2, 3), 4);
        is(x.count(7), 5);
        is(x.blend(0, 1), FULL);
    }

    @Says("REFUSALS, of several the first one told")
    void p14_noneAheadOfBad() {
        unchanged(x -> x.blend(3, 3), NONE);
        unchanged(x -> x.blend(-1, -1), NONE);
    }

    @Says("REFUSALS, of several the first one told")
    void p14_noneAheadOfState() {
        unchanged(x -> x.blend(2, 3), NONE);
        unchanged(x -> x.blend(3, 2), NONE);
    }

    @Says("REFUSALS, of several the first one told")
    void p14_badAheadOfState() {
        unchanged(x -> x.blend(2, 2), BAD);
    }

    @Says("BAD a number is not as told, or two are one; STATE as told; FULL.")
    void p14_allAheadOfFull() {
        unchanged(PeopleSentences::fiveVintages, x -> x.blend(0, 5), NONE);
        unchanged(PeopleSentences::fiveVintages, x -> x.blend(0, 0), BAD);
        unchanged(PeopleSentences::fiveVintages, x -> x.blend(0, 2), STATE);
        unchanged(PeopleSentences::fiveVintages, x -> x.blend(2, 0), STATE);
    }

    @Says("of the year half way (cut) between both, with 2 BOTTLES")
    void p14_halfWayCut() {
        is(blended(50, 85), 67);
        is(blended(85, 50), 67);
        is(blended(0, 1), 0);
        is(blended(198, 199), 198);
        is(blended(0, 199), 99);
        is(blended(199, 199), 199);
        is(blended(0, 0), 0);
        is(blended(50, 84), 67);
    }

    @Says("To BLEND two VINTAGES: BOTTLES of both are 1 less, and there is a new one")
    void p14_theBottles() {
        x.vintage(80, 1);
        x.vintage(90, 99);
        is(x.blend(0, 1), 2);
        is(x.wine(0, 1), 0);
        is(x.wine(1, 1), 98);
        is(x.wine(2, 1), 2);
        is(x.count(7), 3);
        is(x.blend(0, 1), STATE);
    }

    @Says("BLEND: its number.")
    void p14_aBlendOfABlend() {
        x.vintage(80, 3);
        x.vintage(90, 3);
        is(x.blend(0, 1), 2);
        is(x.blend(2, 1), 3);
        is(x.wine(3, 0), 87);
        is(x.wine(2, 1), 1);
    }
}
