/** Promises 23 to 28: what is seen, odds. */
final class SeenSentences extends Sentences {

    private static DrunkByYear fiveSeen() {
        DrunkByYear x = rich();
        x.see(2, 45);
        x.see(0, 30);
        x.see(0, 30);
        return x;
    }

    private static DrunkByYear withoutBottles() {
        DrunkByYear x = rich();
        x.stock(0, 0);
        x.stock(1, 0);
        return x;
    }

    // ---- promise 23: see

    @Says("What is SEEN comes: how many there are")
    void p23_theFirstIsOne() {
        x.person(0, 0, 60, 90);
        is(x.see(0, 40), 1);
        is(x.see(0, 40), 2);
    }

    @Says("SEEN told by hand: one and its AGE (-200 .. 400); 5 at most.")
    void p23_theFifthComes() {
        x.person(0, 0, 60, 90);
        x.vintage(80, 1);
        times(4, () -> x.see(0, 40));
        is(x.drank(0), 32);
        is(x.see(0, 20), 5);
        is(x.count(2), 5);
        is(x.drank(0), 0);
    }

    @Says("FULL: 5.")
    void p23_theSixthIsFull() {
        is(fiveSeen().count(2), 5);
        unchanged(SeenSentences::fiveSeen, x -> x.see(0, 31), FULL);
    }

    @Says("BAD: age")
    void p23_ageTooSmall() {
        unchanged(x -> x.see(0, -201), BAD);
        unchanged(x -> x.see(0, MIN), BAD);
    }

    @Says("BAD: age")
    void p23_ageTooLarge() {
        unchanged(x -> x.see(0, 401), BAD);
        unchanged(x -> x.see(0, MAX), BAD);
    }

    @Says("SEEN told by hand: one and its AGE (-200 .. 400); 5 at most.")
    void p23_theLeastAndTheMostAge() {
        x.person(0, 0, 60, 90);
        is(x.see(0, -200), 1);
        is(x.see(0, 400), 2);
    }

    @Says("NONE; BAD: age")
    void p23_noSuchPerson() {
        unchanged(x -> x.see(-2, 0), NONE);
        unchanged(x -> x.see(4, 0), NONE);
        unchanged(x -> x.see(MIN, 0), NONE);
        unchanged(x -> x.see(MAX, 0), NONE);
        is(x.see(0, 0), NONE);
    }

    @Says("NONE; BAD: age; FULL: 5.")
    void p23_noneAheadOfBad() {
        unchanged(x -> x.see(4, 401), NONE);
        unchanged(x -> x.see(-2, -201), NONE);
    }

    @Says("NONE; BAD: age; FULL: 5.")
    void p23_noneAndBadAheadOfFull() {
        unchanged(SeenSentences::fiveSeen, x -> x.see(4, 0), NONE);
        unchanged(SeenSentences::fiveSeen, x -> x.see(0, 401), BAD);
        unchanged(SeenSentences::fiveSeen, x -> x.see(0, -201), BAD);
    }

    @Says("(person -1: none then, 0, whatever the other is)")
    void p23_noneThenWhateverTheOtherIs() {
        for (int age : new int[] {0, -201, 401, MIN, MAX}) {
            x = fiveSeen();
            is(x.see(-1, age), 0);
            is(x.count(2), 0);
            is(x.drank(0), 39);
            is(x.see(0, 30), 1);
        }
    }

    @Says("(person -1: none then, 0, whatever the other is)")
    void p23_noneThenWhereNobodyIs() {
        is(x.see(-1, 0), 0);
        is(x.count(2), 0);
    }

    // ---- promise 24: drank

    @Says("DRANK (bits). NONE.")
    void p24_noSuchPerson() {
        noSuch(4, (x, n) -> x.drank(n), NONE);
        is(x.drank(0), NONE);
    }

    @Says("VINTAGES (also without BOTTLES) as bits, and 32 for none")
    void p24_withoutBottlesToo() {
        x.person(0, 0, 60, 90);
        x.vintage(80, 0);
        x.vintage(80, 1);
        x.see(0, 20);
        is(x.drank(0), 3);
    }

    @Says("VINTAGES (also without BOTTLES) as bits, and 32 for none")
    void p24_noneIs32() {
        x.person(0, 0, 60, 90);
        is(x.drank(0), 32);
        x.see(0, 40);
        is(x.drank(0), 32);
        x.vintage(100, 1);
        is(x.drank(0), 33);
    }

    @Says("what it can have so that its AGE is as all of SEEN that is of it says")
    void p24_nothingIsSeen() {
        x.person(0, 0, 60, 90);
        times(5, () -> x.vintage(80, 0));
        is(x.drank(0), 63);
        x.see(0, 20);
        is(x.drank(0), 31);
    }

    @Says("what it can have so that its AGE is as all of SEEN that is of it says")
    void p24_whatIsSeenOfAnother() {
        x.person(0, 0, 60, 90);
        x.person(0, 0, 60, 90);
        x.see(1, 7);
        is(x.drank(0), 32);
        is(x.drank(1), 0);
    }

    @Says("what it can have so that its AGE is as all of SEEN that is of it says")
    void p24_allThatIsSeen() {
        x.person(0, 0, 60, 90);
        x.vintage(80, 1);
        x.see(0, 20);
        x.see(0, 20);
        is(x.drank(0), 1);
        x.see(0, 40);
        is(x.drank(0), 0);
    }

    @Says("what it can have so that its AGE is as all of SEEN that is of it says")
    void p24_whetherHereOrNot() {
        x.person(0, 0, 60, 10);
        x.vintage(30, 1);
        x.see(0, -30);
        is(x.drank(0), 1);
        x.see(-1, 0);
        x.see(0, 40);
        is(x.drank(0), 32);
    }

    @Says("All that follows is asked and changes nothing.")
    void p24_changesNothing() {
        unchanged(x -> x.drank(0), 1);
    }

    // ---- promise 25: birth

    @Says("BIRTH: what 0 how many, 1 the least; -5. NONE.")
    void p25_noSuchPerson() {
        noSuch(4, (x, n) -> x.birth(n, 0), NONE);
    }

    @Says("BIRTH: what 0 how many, 1 the least; -5. NONE.")
    void p25_noSuchWhat() {
        noSuch(2, (x, n) -> x.birth(0, n), NONE);
    }

    @Says("how many years (0 .. 199) there are by which, were it BORN then, likewise as it HAS now")
    void p25_nothingIsSeen() {
        x.person(0, 0, 60, 90);
        is(x.birth(0, 0), 200);
        is(x.birth(0, 1), 0);
    }

    @Says("how many years (0 .. 199) there are by which, were it BORN then, likewise as it HAS now")
    void p25_theYear0() {
        x.person(0, 0, 60, 90);
        x.see(0, 100);
        is(x.birth(0, 0), 1);
        is(x.birth(0, 1), 0);
        x.see(-1, 0);
        x.see(0, 101);
        is(x.birth(0, 0), 0);
    }

    @Says("how many years (0 .. 199) there are by which, were it BORN then, likewise as it HAS now")
    void p25_theYear199() {
        x.person(0, 0, 60, 90);
        x.see(0, -99);
        is(x.birth(0, 0), 1);
        is(x.birth(0, 1), 199);
        x.see(-1, 0);
        x.see(0, -100);
        is(x.birth(0, 0), 0);
    }

    @Says("the least (-5: none)")
    void p25_none() {
        x.person(0, 0, 60, 90);
        x.see(0, 40);
        x.see(0, 41);
        is(x.birth(0, 0), 0);
        is(x.birth(0, 1), NOTHING);
    }

    @Says("how many years (0 .. 199) there are by which, were it BORN then, likewise as it HAS now")
    void p25_asItHasNow() {
        x.person(1, 3, 60, 90);
        x.vintage(120, 1);
        x.see(0, 30);
        is(x.birth(0, 1), 70);
        x.pour(0, 0);
        is(x.birth(0, 1), 87);
        x.dry(0);
        is(x.birth(0, 1), 70);
        x.dawn(4);
        is(x.birth(0, 1), 74);
    }

    @Says("All that follows is asked and changes nothing.")
    void p25_changesNothing() {
        unchanged(x -> x.birth(0, 1), 60);
        unchanged(x -> x.birth(1, 0), 1);
    }

    // ---- promise 26: firm

    @Says("FIRM: what 0 how many, 1 the least; -5. NONE.")
    void p26_noSuchPerson() {
        noSuch(4, (x, n) -> x.firm(n, 0), NONE);
    }

    @Says("FIRM: what 0 how many, 1 the least; -5. NONE.")
    void p26_noSuchWhat() {
        noSuch(2, (x, n) -> x.firm(0, n), NONE);
    }

    @Says("how many numbers v (0 .. 9), likewise")
    void p26_nothingIsSeen() {
        x.person(1, 3, 60, 90);
        x.vintage(90, 1);
        x.pour(0, 0);
        is(x.firm(0, 0), 10);
        is(x.firm(0, 1), 0);
    }

    /** One that is HEAVY, HAS of 90, and was seen as old as that. */
    private void heavyOneSeen(int age) {
        x = new DrunkByYear();
        x.person(1, 3, 60, 90);
        x.vintage(90, 1);
        x.pour(0, 0);
        x.see(0, age);
    }

    @Says("how many numbers v (0 .. 9), likewise")
    void p26_v0() {
        heavyOneSeen(30);
        is(x.firm(0, 0), 1);
        is(x.firm(0, 1), 0);
        heavyOneSeen(31);
        is(x.firm(0, 0), 0);
    }

    @Says("how many numbers v (0 .. 9), likewise")
    void p26_v9() {
        heavyOneSeen(21);
        is(x.firm(0, 0), 1);
        is(x.firm(0, 1), 9);
        heavyOneSeen(20);
        is(x.firm(0, 0), 0);
    }

    @Says("the least (-5: none)")
    void p26_none() {
        heavyOneSeen(20);
        is(x.firm(0, 1), NOTHING);
        heavyOneSeen(25);
        is(x.firm(0, 1), 5);
        x.see(0, 26);
        is(x.firm(0, 1), NOTHING);
        is(x.firm(0, 0), 0);
    }

    @Says("how many numbers v (0 .. 9), likewise")
    void p26_whereVIsOfNoWeight() {
        for (int kind : new int[] {0, 2, 3, 5, 6}) {
            x = new DrunkByYear();
            x.person(kind, 3, 60, 90);
            x.vintage(100, 1);
            x.pour(0, 0);
            x.see(0, 40);
            is(x.firm(0, 0), 10);
            is(x.firm(0, 1), 0);
            x.see(0, 41);
            is(x.firm(0, 0), 0);
            is(x.firm(0, 1), NOTHING);
        }
    }

    @Says("how many numbers v (0 .. 9), likewise")
    void p26_twiceOfADeepOne() {
        x.person(4, 3, 60, 90);
        x.vintage(90, 1);
        x.pour(0, 0);
        x.see(0, 12);
        is(x.firm(0, 1), 9);
        x.see(-1, 0);
        x.see(0, 13);
        is(x.firm(0, 1), NOTHING);
    }

    @Says("All that follows is asked and changes nothing.")
    void p26_changesNothing() {
        unchanged(x -> x.firm(0, 0), 10);
        unchanged(x -> x.firm(1, 1), NOTHING);
    }

    // ---- promise 27: odds

    private void odds(int stage, long above, long below) {
        is(x.odds(0, stage, 0), above);
        is(x.odds(0, stage, 1), below);
    }

    @Says("NO: person, stage, part, no BOTTLES.")
    void p27_noSuchPerson() {
        noSuch(4, (x, n) -> x.odds(n, 0, 0), NO);
    }

    @Says("NO: person, stage, part, no BOTTLES.")
    void p27_noSuchStage() {
        noSuch(4, (x, n) -> x.odds(0, n, 0), NO);
    }

    @Says("part 0 above, 1 below the line")
    void p27_noSuchPart() {
        noSuch(2, (x, n) -> x.odds(0, 0, n), NO);
    }

    @Says("NO: person, stage, part, no BOTTLES.")
    void p27_noBottles() {
        unchanged(SeenSentences::withoutBottles, x -> x.odds(0, 0, 0), NO);
        unchanged(SeenSentences::withoutBottles, x -> x.odds(0, 2, 1), NO);
    }

    @Says("a fraction in lowest terms (NO: there is none)")
    void p27_noVintages() {
        x.person(0, 0, 60, 90);
        for (int stage = 0; stage <= 3; stage++) {
            odds(stage, NO, NO);
        }
    }

    @Says("ODDS of one and a STAGE (0 .. 3)")
    void p27_eachStage() {
        x.person(0, 0, 60, 90);
        x.vintage(59, 1);
        x.vintage(77, 2);
        x.vintage(78, 3);
        x.vintage(120, 3);
        x.vintage(151, 1);
        odds(0, 1, 5);
        odds(1, 1, 5);
        odds(2, 3, 10);
        odds(3, 3, 10);
    }

    @Says("how likely it is of that STAGE then: a fraction in lowest terms (NO: there is none)")
    void p27_neverIs0By1() {
        x.person(0, 0, 60, 90);
        x.vintage(80, 7);
        odds(0, 0, 1);
        odds(1, 0, 1);
        odds(3, 0, 1);
    }

    @Says("how likely it is of that STAGE then: a fraction in lowest terms (NO: there is none)")
    void p27_alwaysIs1By1() {
        x.person(0, 0, 60, 90);
        x.vintage(80, 99);
        odds(2, 1, 1);
        times(4, () -> x.vintage(80, 99));
        odds(2, 1, 1);
    }

    @Says("how likely it is of that STAGE then: a fraction in lowest terms (NO: there is none)")
    void p27_inLowestTerms() {
        x.person(0, 0, 60, 90);
        x.vintage(80, 4);
        x.vintage(70, 6);
        odds(2, 2, 5);
        odds(1, 3, 5);
        x.stock(0, 98);
        x.stock(1, 99);
        odds(2, 98, 197);
        x.vintage(70, 99);
        x.vintage(70, 99);
        x.vintage(70, 99);
        odds(2, 49, 247);
        odds(1, 198, 247);
    }

    @Says("if it is POURED any BOTTLE, each alike likely")
    void p27_byBottlesNotByVintages() {
        x.person(0, 0, 60, 90);
        x.vintage(80, 1);
        x.vintage(70, 0);
        odds(2, 1, 1);
        x.stock(1, 3);
        odds(2, 1, 4);
        x.pour(0, 1);
        odds(2, 1, 3);
    }

    @Says("All that follows is asked and changes nothing.")
    void p27_changesNothing() {
        unchanged(x -> x.odds(0, 2, 0), 2);
        unchanged(x -> x.odds(0, 3, 1), 3);
    }

    // ---- promise 28: mean

    @Says("MEAN. NO: part, nobody is HERE.")
    void p28_noSuchPart() {
        noSuch(2, (x, n) -> x.mean(n), NO);
    }

    @Says("MEAN. NO: part, nobody is HERE.")
    void p28_nobodyThereIs() {
        is(x.mean(0), NO);
        is(x.mean(1), NO);
    }

    @Says("(NO: nobody is)")
    void p28_nobodyIsHere() {
        x.person(0, 0, 101, 90);
        x.person(0, 0, 0, 99);
        is(x.mean(0), NO);
        is(x.mean(1), NO);
        x.dawn(1);
        is(x.mean(0), 0);
        is(x.mean(1), 1);
    }

    @Says("AGE of all that are HERE in the mean: a fraction in lowest terms")
    void p28_thoseNotHereDoNotCount() {
        x.person(0, 0, 199, 90);
        x.person(0, 0, 60, 90);
        x.person(0, 0, 0, 99);
        is(x.mean(0), 40);
        is(x.mean(1), 1);
    }

    @Says("AGE of all that are HERE in the mean: a fraction in lowest terms")
    void p28_zeroIs0By1() {
        times(6, () -> x.person(0, 0, 100, 0));
        is(x.mean(0), 0);
        is(x.mean(1), 1);
    }

    @Says("AGE of all that are HERE in the mean: a fraction in lowest terms")
    void p28_inLowestTerms() {
        x.person(0, 0, 90, 90);
        x.person(0, 0, 95, 90);
        is(x.mean(0), 15);
        is(x.mean(1), 2);
        x.person(0, 0, 94, 90);
        is(x.mean(0), 7);
        is(x.mean(1), 1);
        x.person(0, 0, 91, 90);
        is(x.mean(0), 15);
        is(x.mean(1), 2);
        x.person(0, 0, 100, 90);
        is(x.mean(0), 6);
        x.person(0, 0, 97, 90);
        is(x.mean(0), 11);
        is(x.mean(1), 2);
    }

    @Says("AGE of all that are HERE in the mean: a fraction in lowest terms")
    void p28_byAgeNotByTrueAge() {
        x.person(0, 0, 60, 90);
        x.person(0, 0, 60, 90);
        x.vintage(85, 1);
        x.pour(1, 0);
        is(x.mean(0), 65);
        is(x.mean(1), 2);
    }

    @Says("All that follows is asked and changes nothing.")
    void p28_changesNothing() {
        unchanged(x -> x.mean(0), 165);
        unchanged(x -> x.mean(1), 4);
    }
}
