/** Promises 15 to 19: who is here. */
final class HereSentences extends Sentences {

    // ---- promise 15: alive

    @Says("ALIVE (bits). BAD.")
    void p15_tooFewDawns() {
        unchanged(x -> x.alive(-1), BAD);
        unchanged(x -> x.alive(MIN), BAD);
    }

    @Says("ALIVE (bits). BAD.")
    void p15_tooManyDawns() {
        unchanged(x -> x.alive(100), BAD);
        unchanged(x -> x.alive(MAX), BAD);
    }

    @Says("ALIVE behind n DAWNS (0 .. 99): who is HERE then, as bits.")
    void p15_behindNoDawnByWhatTheyHave() {
        x.person(0, 0, 60, 90);
        x.person(0, 0, 110, 90);
        x.vintage(50, 1);
        x.vintage(120, 1);
        x.pour(0, 0);
        x.pour(1, 1);
        is(x.alive(0), 2);
    }

    @Says("ALIVE behind n DAWNS (0 .. 99): who is HERE then, as bits.")
    void p15_behindOneDawnAllHaveNone() {
        x.person(0, 0, 60, 90);
        x.person(0, 0, 110, 90);
        x.vintage(50, 1);
        x.vintage(120, 1);
        x.pour(0, 0);
        x.pour(1, 1);
        is(x.alive(1), 1);
        is(x.told(3), 2);
    }

    @Says("ALIVE behind n DAWNS (0 .. 99): who is HERE then, as bits.")
    void p15_behindNinetyNineDawns() {
        x.person(0, 0, 199, 0);
        x.person(0, 0, 198, 0);
        x.person(0, 0, 79, 120);
        x.person(0, 0, 78, 120);
        is(x.alive(99), 5);
        is(x.alive(98), 14);
    }

    @Says("ALIVE behind n DAWNS (0 .. 99): who is HERE then, as bits.")
    void p15_theyAreBornAndDie() {
        x.person(3, 0, 105, 10);
        is(x.alive(4), 0);
        is(x.alive(5), 1);
        is(x.alive(15), 1);
        is(x.alive(16), 0);
    }

    @Says("ALIVE behind n DAWNS (0 .. 99): who is HERE then, as bits.")
    void p15_dawnsBeyondTheYear999() {
        times(9, () -> x.dawn(99));
        x.dawn(8);
        x.person(0, 0, 60, 90);
        x.vintage(100, 1);
        x.pour(0, 0);
        is(x.alive(0), 1);
        is(x.alive(1), 0);
        is(x.alive(99), 0);
        is(x.told(0), 999);
    }

    @Says("ALIVE behind n DAWNS (0 .. 99): who is HERE then, as bits.")
    void p15_nobodyAndAllSix() {
        is(x.alive(0), 0);
        is(x.alive(99), 0);
        times(6, () -> x.person(0, 0, 100, 120));
        is(x.alive(0), 63);
        is(x.alive(99), 63);
    }

    @Says("All that follows is asked and changes nothing.")
    void p15_changesNothing() {
        unchanged(x -> x.alive(0), 15);
        unchanged(x -> x.alive(40), 7);
    }

    // ---- promise 16: brings

    @Says("BRINGS (bits). NONE.")
    void p16_noSuchPerson() {
        noSuch(4, (x, n) -> x.brings(n), NONE);
        is(x.brings(0), NONE);
    }

    @Says("BRINGS of one: those VINTAGES with BOTTLES, as bits, having which it would be HERE.")
    void p16_noVintages() {
        x.person(0, 0, 60, 90);
        is(x.brings(0), 0);
    }

    @Says("BRINGS of one: those VINTAGES with BOTTLES, as bits, having which it would be HERE.")
    void p16_withoutBottles() {
        x.person(0, 0, 60, 90);
        x.vintage(80, 0);
        x.vintage(80, 1);
        is(x.brings(0), 2);
        x.pour(0, 1);
        is(x.brings(0), 0);
        is(x.of(0, 6), 1);
    }

    @Says("BRINGS of one: those VINTAGES with BOTTLES, as bits, having which it would be HERE.")
    void p16_fromAge0ToLife() {
        x.person(0, 0, 60, 30);
        x.vintage(59, 1);
        x.vintage(60, 1);
        x.vintage(75, 1);
        x.vintage(90, 1);
        x.vintage(91, 1);
        is(x.brings(0), 14);
    }

    @Says("BRINGS of one: those VINTAGES with BOTTLES, as bits, having which it would be HERE.")
    void p16_allFiveAndWhateverItHas() {
        x.person(0, 0, 110, 90);
        times(5, () -> x.vintage(120, 2));
        is(x.brings(0), 31);
        x.pour(0, 3);
        is(x.brings(0), 31);
    }

    @Says("All that follows is asked and changes nothing.")
    void p16_changesNothing() {
        unchanged(x -> x.brings(0), 3);
    }

    // ---- promise 17: nearest

    @Says("NONE; BAD: n.")
    void p17_noSuchPerson() {
        noSuch(4, (x, n) -> x.nearest(n, 0), NONE);
    }

    @Says("NONE; BAD: n.")
    void p17_nTooSmall() {
        unchanged(x -> x.nearest(0, -1), BAD);
        unchanged(x -> x.nearest(0, MIN), BAD);
    }

    @Says("NONE; BAD: n.")
    void p17_nTooLarge() {
        unchanged(x -> x.nearest(0, 121), BAD);
        unchanged(x -> x.nearest(0, MAX), BAD);
    }

    @Says("NONE; BAD: n.")
    void p17_noneAheadOfBad() {
        unchanged(x -> x.nearest(4, 121), NONE);
        unchanged(x -> x.nearest(-1, -1), NONE);
    }

    @Says("NONE; BAD: n.")
    void p17_badAheadOfNoBottles() {
        x.person(0, 0, 60, 90);
        is(x.nearest(0, 121), BAD);
        is(x.nearest(0, -1), BAD);
    }

    @Says("NEAREST of one and n (0 .. 120)")
    void p17_n0AndN120() {
        x.person(0, 0, 60, 90);
        x.vintage(170, 1);
        x.vintage(61, 1);
        is(x.nearest(0, 0), 1);
        is(x.nearest(0, 120), 0);
    }

    @Says("(of several the first; -5: none has any)")
    void p17_noVintages() {
        x.person(0, 0, 60, 90);
        is(x.nearest(0, 40), NOTHING);
    }

    @Says("(of several the first; -5: none has any)")
    void p17_noneHasAny() {
        x.person(0, 0, 60, 90);
        x.vintage(80, 1);
        x.vintage(90, 0);
        is(x.nearest(0, 30), 0);
        x.pour(0, 0);
        is(x.nearest(0, 30), NOTHING);
    }

    @Says("the VINTAGE with BOTTLES having which its AGE would be nearest to n")
    void p17_oneWithoutBottlesIsNearer() {
        x.person(0, 0, 60, 90);
        x.vintage(80, 0);
        x.vintage(190, 1);
        is(x.nearest(0, 20), 1);
    }

    @Says("(of several the first; -5: none has any)")
    void p17_ofSeveralTheFirst() {
        x.person(0, 0, 60, 90);
        x.vintage(79, 1);
        x.vintage(81, 1);
        x.vintage(79, 1);
        is(x.nearest(0, 20), 0);
        is(x.nearest(0, 19), 0);
        is(x.nearest(0, 21), 1);
        x.stock(0, 0);
        is(x.nearest(0, 20), 1);
        is(x.nearest(0, 19), 2);
    }

    @Says("the VINTAGE with BOTTLES having which its AGE would be nearest to n")
    void p17_theLastOfFive() {
        x.person(0, 0, 60, 90);
        for (int w = 0; w < 5; w++) {
            x.vintage(110 - 10 * w, 1);
        }
        is(x.nearest(0, 0), 4);
        is(x.nearest(0, 14), 4);
        is(x.nearest(0, 16), 3);
        is(x.nearest(0, 120), 0);
    }

    @Says("the VINTAGE with BOTTLES having which its AGE would be nearest to n")
    void p17_itNeedNotBeHere() {
        x.person(0, 0, 60, 10);
        x.vintage(58, 1);
        x.vintage(65, 1);
        x.vintage(100, 1);
        is(x.nearest(0, 0), 0);
        is(x.nearest(0, 40), 2);
    }

    @Says("the VINTAGE with BOTTLES having which its AGE would be nearest to n")
    void p17_theFarthestOfAll() {
        x.person(4, 9, 199, 90);
        x.vintage(0, 1);
        is(x.nearest(0, 120), 0);
    }

    @Says("All that follows is asked and changes nothing.")
    void p17_changesNothing() {
        unchanged(x -> x.nearest(0, 60), 1);
    }

    // ---- promise 18: two

    @Says("TWO; -5.")
    void p18_nobody() {
        is(x.two(), NOTHING);
    }

    @Says("-5: there are not two")
    void p18_one() {
        x.person(0, 0, 60, 90);
        is(x.two(), NOTHING);
    }

    @Says("-5: there are not two")
    void p18_twoOfWhomOneIsNotHere() {
        x.person(0, 0, 60, 90);
        x.person(0, 0, 101, 90);
        is(x.two(), NOTHING);
        x.dawn(1);
        is(x.two(), 1);
    }

    @Says("-5: there are not two")
    void p18_sixOfWhomNoneIsHere() {
        times(6, () -> x.person(0, 0, 101, 90));
        is(x.two(), NOTHING);
    }

    @Says("the two that are HERE whose AGES are nearest")
    void p18_thoseNotHereAreNotLookedAt() {
        x.person(0, 0, 101, 90);
        x.person(0, 0, 101, 90);
        x.person(0, 0, 60, 90);
        x.person(0, 0, 0, 99);
        x.person(0, 0, 80, 90);
        is(x.two(), 24);
    }

    @Says("10 times the lesser and the greater number; of several the first; -5: there are not two")
    void p18_ofSeveralTheFirst() {
        x.person(0, 0, 10, 99);
        x.person(0, 0, 40, 90);
        x.person(0, 0, 50, 90);
        x.person(0, 0, 60, 90);
        x.person(0, 0, 70, 90);
        is(x.two(), 12);
        x.person(0, 0, 20, 99);
        is(x.two(), 5);
    }

    @Says("10 times the lesser and the greater number; of several the first; -5: there are not two")
    void p18_theLastTwo() {
        x.person(0, 0, 10, 99);
        x.person(0, 0, 30, 99);
        x.person(0, 0, 50, 99);
        x.person(0, 0, 70, 99);
        x.person(0, 0, 90, 99);
        x.person(0, 0, 89, 99);
        is(x.two(), 45);
    }

    @Says("the two that are HERE whose AGES are nearest")
    void p18_ofTheSameAge() {
        x.person(0, 0, 10, 99);
        x.person(0, 0, 9, 99);
        x.person(0, 0, 50, 99);
        x.person(0, 0, 50, 99);
        is(x.two(), 23);
    }

    @Says("the two that are HERE whose AGES are nearest")
    void p18_byAgeNotByTrueAge() {
        x.person(0, 0, 50, 90);
        x.person(0, 0, 51, 90);
        x.person(0, 0, 90, 90);
        x.vintage(60, 1);
        x.pour(0, 0);
        is(x.two(), 2);
    }

    @Says("All that follows is asked and changes nothing.")
    void p18_changesNothing() {
        unchanged(DrunkByYear::two, 1);
    }

    // ---- promise 19: meet

    @Says("NONE; BAD: one is both.")
    void p19_noSuchPerson() {
        unchanged(x -> x.meet(-1, 0, 0), NONE);
        unchanged(x -> x.meet(0, -1, 0), NONE);
        unchanged(x -> x.meet(4, 0, 0), NONE);
        unchanged(x -> x.meet(0, 4, 0), NONE);
        unchanged(x -> x.meet(MIN, 0, 1), NONE);
        unchanged(x -> x.meet(0, MAX, 1), NONE);
    }

    @Says("NONE; BAD: one is both.")
    void p19_noSuchWhat() {
        noSuch(2, (x, n) -> x.meet(0, 1, n), NONE);
    }

    @Says("NONE; BAD: one is both.")
    void p19_oneIsBoth() {
        unchanged(x -> x.meet(0, 0, 0), BAD);
        unchanged(x -> x.meet(3, 3, 1), BAD);
    }

    @Says("NONE; BAD: one is both.")
    void p19_noneAheadOfBad() {
        unchanged(x -> x.meet(4, 4, 0), NONE);
        unchanged(x -> x.meet(-1, -1, 0), NONE);
        unchanged(x -> x.meet(0, 0, 2), NONE);
        unchanged(x -> x.meet(0, 0, -1), NONE);
    }

    @Says("how many years (0 .. 199) there are of which, had both of such a vintage, both would be HERE")
    void p19_theYear0() {
        x.person(0, 0, 0, 0);
        x.person(3, 0, 60, 90);
        is(x.meet(0, 1, 0), 1);
        is(x.meet(0, 1, 1), 0);
    }

    @Says("how many years (0 .. 199) there are of which, had both of such a vintage, both would be HERE")
    void p19_theYear199() {
        x.person(0, 0, 199, 120);
        x.person(3, 0, 60, 90);
        is(x.meet(0, 1, 0), 1);
        is(x.meet(0, 1, 1), 199);
    }

    @Says("how many years (0 .. 199) there are of which, had both of such a vintage, both would be HERE")
    void p19_allYears() {
        x.person(3, 0, 60, 90);
        x.person(3, 0, 100, 0);
        is(x.meet(0, 1, 0), 200);
        is(x.meet(1, 0, 0), 200);
        is(x.meet(0, 1, 1), 0);
    }

    @Says("MEET: what 0 how many, 1 the first; -5.")
    void p19_noYear() {
        x.person(0, 0, 60, 9);
        x.person(0, 0, 70, 90);
        is(x.meet(0, 1, 0), 0);
        is(x.meet(0, 1, 1), NOTHING);
        is(x.meet(1, 0, 1), NOTHING);
    }

    @Says("the first (-5: none)")
    void p19_oneYear() {
        x.person(0, 0, 60, 10);
        x.person(0, 0, 70, 90);
        is(x.meet(0, 1, 0), 1);
        is(x.meet(0, 1, 1), 70);
        is(x.meet(1, 0, 1), 70);
    }

    @Says("how many years (0 .. 199) there are of which, had both of such a vintage, both would be HERE")
    void p19_noneNeedHaveAnythingNow() {
        x.person(0, 0, 60, 20);
        x.person(0, 0, 70, 20);
        is(x.meet(0, 1, 0), 11);
        x.vintage(65, 2);
        x.pour(0, 0);
        x.pour(1, 0);
        is(x.meet(0, 1, 0), 11);
        is(x.meet(0, 1, 1), 70);
    }

    @Says("how many years (0 .. 199) there are of which, had both of such a vintage, both would be HERE")
    void p19_yearsByTheKind() {
        x.person(2, 0, 60, 60);
        x.person(6, 0, 100, 0);
        // 40 and the half of what is cut toward 0: of 19 on 0, of 141 at most 60.
        is(x.meet(0, 1, 1), 19);
        is(x.meet(0, 1, 0), 123);
        x.row(1, 3, 1);
        is(x.meet(0, 1, 1), 20);
        is(x.meet(0, 1, 0), 92);
    }

    @Says("All that follows is asked and changes nothing.")
    void p19_changesNothing() {
        unchanged(x -> x.meet(0, 1, 1), 74);
        unchanged(x -> x.meet(0, 1, 0), 77);
    }
}
