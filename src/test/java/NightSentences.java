/** Promises 29 to 32: nights, books. */
final class NightSentences extends Sentences {

    private static DrunkByYear eightOfTheNight() {
        DrunkByYear x = rich();
        times(6, () -> x.night(0, 0, 0));
        return x;
    }

    private static DrunkByYear eightInTheBook() {
        DrunkByYear x = rich();
        times(6, () -> x.book(0, 30));
        return x;
    }

    /** Two people 40 years old, bold by wine; one bottle of 80 and two of 70. */
    private void twoAndWine() {
        x.person(0, 0, 60, 90);
        x.person(0, 0, 60, 90);
        x.vintage(80, 1);
        x.vintage(70, 2);
        village("bold 5 h=0;bold 7 h=1");
    }

    // ---- promise 29: night

    @Says("A row comes to the NIGHT: how many there are")
    void p29_theFirstIsOne() {
        is(x.night(0, 0, 0), 1);
        is(x.night(0, 0, 0), 2);
    }

    @Says("8 at most. DONE")
    void p29_theEighthComes() {
        twoAndWine();
        times(7, () -> x.night(2, 0, 0));
        is(x.done(1), 20);
        is(x.night(1, 0, 0), 8);
        is(x.count(3), 8);
        is(x.done(1), 25);
    }

    @Says("FULL: 8.")
    void p29_theNinthIsFull() {
        is(eightOfTheNight().count(3), 8);
        unchanged(NightSentences::eightOfTheNight, x -> x.night(1, 0, 0), FULL);
        unchanged(NightSentences::eightOfTheNight, x -> x.night(0, 0, 0), FULL);
    }

    @Says("NONE: what, person (but by 0), vintage (by 1)")
    void p29_noSuchWhat() {
        unchanged(x -> x.night(-2, 0, 0), NONE);
        unchanged(x -> x.night(3, 0, 0), NONE);
        unchanged(x -> x.night(MIN, 0, 0), NONE);
        unchanged(x -> x.night(MAX, 0, 0), NONE);
    }

    @Says("NONE: what, person (but by 0), vintage (by 1)")
    void p29_noSuchPersonByOne() {
        noSuch(4, (x, n) -> x.night(1, n, 0), NONE);
    }

    @Says("NONE: what, person (but by 0), vintage (by 1)")
    void p29_noSuchPersonByTwo() {
        noSuch(4, (x, n) -> x.night(2, n, 0), NONE);
    }

    @Says("NONE: what, person (but by 0), vintage (by 1)")
    void p29_noSuchVintageByOne() {
        noSuch(3, (x, n) -> x.night(1, 0, n), NONE);
    }

    @Says("0 a DAWN (the others not looked at)")
    void p29_byADawnTheOthersAreNotLookedAt() {
        x.person(0, 0, 99, 0);
        is(x.night(0, -1, -1), 1);
        is(x.night(0, MIN, MAX), 2);
        is(x.night(0, 99, 99), 3);
        is(x.done(0), 0);
    }

    @Says("2 one HAS none (the vintage not looked at)")
    void p29_byNoneTheVintageIsNotLookedAt() {
        x.person(0, 0, 60, 90);
        is(x.night(2, 0, -1), 1);
        is(x.night(2, 0, MIN), 2);
        is(x.night(2, 0, MAX), 3);
        is(x.night(2, 0, 5), 4);
        is(x.done(0), 1);
    }

    @Says("1 one is POURED a vintage (passed over, if it has no BOTTLES then)")
    void p29_aVintageWithoutBottlesComes() {
        x.person(0, 0, 60, 90);
        x.vintage(80, 0);
        is(x.night(1, 0, 0), 1);
    }

    @Says("FULL: 8.")
    void p29_noneAheadOfFull() {
        unchanged(NightSentences::eightOfTheNight, x -> x.night(3, 0, 0), NONE);
        unchanged(NightSentences::eightOfTheNight, x -> x.night(1, 4, 0), NONE);
        unchanged(NightSentences::eightOfTheNight, x -> x.night(1, 0, 3), NONE);
        unchanged(NightSentences::eightOfTheNight, x -> x.night(2, 4, 0), NONE);
    }

    @Says("(what -1: none then, 0, whatever the others are)")
    void p29_noneThenWhateverTheOthersAre() {
        for (int other : new int[] {0, -1, 99, MIN, MAX}) {
            x = eightOfTheNight();
            is(x.night(-1, other, other), 0);
            is(x.count(3), 0);
            is(x.done(1), 50);
            is(x.night(2, 0, 0), 1);
        }
    }

    @Says("(what -1: none then, 0, whatever the others are)")
    void p29_noneThenWhereNobodyIs() {
        is(x.night(-1, 0, 0), 0);
        is(x.count(3), 0);
    }

    @Says("NIGHT told by hand: rows of what")
    void p29_nothingIsDoneYet() {
        twoAndWine();
        x.night(1, 0, 0);
        x.night(0, 0, 0);
        is(x.wine(0, 1), 1);
        is(x.of(0, 4), NOTHING);
        is(x.told(0), 100);
    }

    // ---- promise 30: done

    @Says("DONE: what 0 how many are HERE, 1 NERVE. NONE.")
    void p30_noSuchWhat() {
        noSuch(2, (x, n) -> x.done(n), NONE);
    }

    @Says("DONE: how many are HERE; NERVE of all, together.")
    void p30_anEmptyNight() {
        is(x.done(0), 0);
        is(x.done(1), 0);
        twoAndWine();
        is(x.done(0), 2);
        is(x.done(1), 20);
        x.pour(0, 0);
        is(x.done(1), 25);
    }

    @Says("DONE: how many are HERE; NERVE of all, together.")
    void p30_allSix() {
        times(6, () -> x.person(0, 0, 60, 90));
        is(x.done(0), 6);
        is(x.done(1), 60);
    }

    @Says("1 one is POURED a vintage (passed over, if it has no BOTTLES then)")
    void p30_passedOverWithoutBottles() {
        twoAndWine();
        x.night(1, 0, 0);
        x.night(1, 1, 0);
        is(x.done(1), 25);
        x.stock(0, 2);
        is(x.done(1), 30);
        x.stock(0, 0);
        is(x.done(1), 20);
    }

    @Says("1 one is POURED a vintage (passed over, if it has no BOTTLES then)")
    void p30_passedOverItHasWhatItHad() {
        twoAndWine();
        x.night(1, 0, 1);
        x.night(1, 1, 0);
        x.night(1, 0, 0);
        is(x.done(1), 32);
    }

    @Says("1 one is POURED a vintage (passed over, if it has no BOTTLES then)")
    void p30_aBottleMoreEachTime() {
        twoAndWine();
        x.night(1, 0, 1);
        x.night(1, 0, 1);
        x.night(1, 1, 1);
        is(x.done(1), 27);
    }

    @Says("2 one HAS none (the vintage not looked at)")
    void p30_oneHasNone() {
        twoAndWine();
        x.pour(0, 0);
        x.night(2, 0, 0);
        is(x.done(1), 20);
        x.night(1, 1, 0);
        is(x.done(1), 20);
    }

    @Says("0 a DAWN (the others not looked at)")
    void p30_aDawn() {
        twoAndWine();
        x.person(0, 0, 101, 90);
        x.pour(0, 0);
        is(x.done(0), 2);
        x.night(0, 0, 0);
        is(x.done(0), 3);
        is(x.done(1), 30);
        x.night(1, 0, 1);
        is(x.done(1), 37);
    }

    @Says("A DAWN: all HAVE none, YEAR is 1 more.")
    void p30_eightDawns() {
        x.person(0, 0, 100, 7);
        x.person(0, 0, 108, 7);
        times(7, () -> x.night(0, 0, 0));
        is(x.done(0), 1);
        is(x.told(3), 1);
        x.night(0, 0, 0);
        x.person(0, 0, 100, 8);
        is(x.done(0), 2);
    }

    @Says("A DAWN: all HAVE none, YEAR is 1 more.")
    void p30_dawnsBeyondTheYear999() {
        times(9, () -> x.dawn(99));
        x.dawn(8);
        x.person(0, 0, 60, 90);
        x.vintage(100, 2);
        x.pour(0, 0);
        is(x.done(0), 1);
        x.night(0, 0, 0);
        is(x.done(0), 0);
        x.night(1, 0, 0);
        is(x.done(0), 1);
        is(x.told(0), 999);
    }

    @Says("All that follows is asked and changes nothing.")
    void p30_changesNothing() {
        unchanged(x -> x.done(0), 4);
        unchanged(x -> x.done(1), 50);
        unchanged(NightSentences::eightOfTheNight, x -> x.done(1), 40);
    }

    // ---- promise 31: book

    @Says("A row comes to BOOK: how many there are")
    void p31_theFirstIsOne() {
        x.person(0, 0, 60, 90);
        is(x.book(0, 40), 1);
        is(x.book(0, 40), 2);
    }

    @Says("BOOK told by hand: PEOPLE and AGES (-200 .. 400); 8 at most.")
    void p31_theEighthComes() {
        x.person(0, 0, 60, 90);
        times(7, () -> x.book(0, 40));
        is(x.looked(), NOTHING);
        is(x.book(0, 41), 8);
        is(x.count(4), 8);
        is(x.looked(), 7);
    }

    @Says("FULL: 8.")
    void p31_theNinthIsFull() {
        is(eightInTheBook().count(4), 8);
        unchanged(NightSentences::eightInTheBook, x -> x.book(0, 31), FULL);
    }

    @Says("BAD: age")
    void p31_ageTooSmall() {
        unchanged(x -> x.book(0, -201), BAD);
        unchanged(x -> x.book(0, MIN), BAD);
    }

    @Says("BAD: age")
    void p31_ageTooLarge() {
        unchanged(x -> x.book(0, 401), BAD);
        unchanged(x -> x.book(0, MAX), BAD);
    }

    @Says("BOOK told by hand: PEOPLE and AGES (-200 .. 400); 8 at most.")
    void p31_theLeastAndTheMostAge() {
        x.person(0, 0, 60, 90);
        is(x.book(0, -200), 1);
        is(x.book(0, 400), 2);
    }

    @Says("NONE; BAD: age")
    void p31_noSuchPerson() {
        unchanged(x -> x.book(-2, 0), NONE);
        unchanged(x -> x.book(4, 0), NONE);
        unchanged(x -> x.book(MIN, 0), NONE);
        unchanged(x -> x.book(MAX, 0), NONE);
        is(x.book(0, 0), NONE);
    }

    @Says("NONE; BAD: age; FULL: 8.")
    void p31_noneAheadOfBad() {
        unchanged(x -> x.book(4, 401), NONE);
        unchanged(x -> x.book(-2, -201), NONE);
    }

    @Says("NONE; BAD: age; FULL: 8.")
    void p31_noneAndBadAheadOfFull() {
        unchanged(NightSentences::eightInTheBook, x -> x.book(4, 0), NONE);
        unchanged(NightSentences::eightInTheBook, x -> x.book(0, 401), BAD);
        unchanged(NightSentences::eightInTheBook, x -> x.book(0, -201), BAD);
    }

    @Says("(person -1: none then, 0, whatever the other is)")
    void p31_noneThenWhateverTheOtherIs() {
        for (int age : new int[] {0, -201, 401, MIN, MAX}) {
            x = eightInTheBook();
            x.dry(0);
            is(x.looked(), 0);
            is(x.book(-1, age), 0);
            is(x.count(4), 0);
            is(x.looked(), NOTHING);
            is(x.book(0, 30), 1);
        }
    }

    @Says("(person -1: none then, 0, whatever the other is)")
    void p31_noneThenWhereNobodyIs() {
        is(x.book(-1, 0), 0);
        is(x.count(4), 0);
    }

    @Says("A row comes to BOOK: how many there are")
    void p31_theBookIsNotWhatIsSeen() {
        x.person(0, 0, 60, 90);
        x.book(0, 41);
        is(x.count(2), 0);
        is(x.drank(0), 32);
        x.see(0, 42);
        is(x.count(4), 1);
        is(x.book(-1, 0), 0);
        is(x.count(2), 1);
    }

    // ---- promise 32: looked

    @Says("LOOKED at: the first by which it is otherwise now (-5: none).")
    void p32_anEmptyBook() {
        is(x.looked(), NOTHING);
        x.person(0, 0, 60, 90);
        is(x.looked(), NOTHING);
    }

    @Says("LOOKED at: the first by which it is otherwise now (-5: none).")
    void p32_allAsTold() {
        x.person(0, 0, 60, 90);
        x.person(0, 0, 199, 90);
        x.book(0, 40);
        x.book(1, -99);
        is(x.looked(), NOTHING);
    }

    @Says("LOOKED at: the first by which it is otherwise now (-5: none).")
    void p32_theFirstOfTwo() {
        x.person(0, 0, 60, 90);
        x.book(0, 40);
        x.book(0, 41);
        x.book(0, 40);
        x.book(0, 39);
        is(x.looked(), 1);
        x.dawn(1);
        is(x.looked(), 0);
    }

    @Says("LOOKED at: the first by which it is otherwise now (-5: none).")
    void p32_asItIsNow() {
        x.person(0, 0, 60, 90);
        x.vintage(80, 1);
        x.book(0, 20);
        is(x.looked(), 0);
        x.pour(0, 0);
        is(x.looked(), NOTHING);
        x.dry(0);
        is(x.looked(), 0);
    }

    @Says("All that follows is asked and changes nothing.")
    void p32_changesNothing() {
        unchanged(DrunkByYear::looked, NOTHING);
    }
}
