/** Promises 20 to 22: seatings. */
final class SeatingSentences extends Sentences {

    /** Two not yet born, whom wine of 130 brings; one 40 years old, whom it does away with. */
    private static DrunkByYear party() {
        DrunkByYear x = new DrunkByYear();
        x.person(0, 0, 110, 90);
        x.person(0, 0, 120, 90);
        x.person(0, 0, 60, 50);
        x.vintage(130, 1);
        x.vintage(130, 1);
        return x;
    }

    private void fewest(int set, int... due) {
        for (int i = 0; i < due.length; i++) {
            is(x.fewest(set, i == 0 ? 0 : i + 9), due[i]);
        }
    }

    private void close(int... due) {
        for (int i = 0; i < due.length; i++) {
            is(x.close(i == 0 ? 0 : i + 9), due[i]);
        }
    }

    private void boldest(int... due) {
        for (int i = 0; i < due.length; i++) {
            is(x.boldest(i == 0 ? 0 : i + 9), due[i]);
        }
    }

    /** Six, born 10 years apart, the last three of them not here; five vintages with a bottle each. */
    private static DrunkByYear sixAndFive() {
        DrunkByYear x = new DrunkByYear();
        for (int p = 0; p < 6; p++) {
            x.person(0, 0, 75 + 10 * p, 90);
        }
        for (int w = 0; w < 5; w++) {
            x.vintage(105 + 10 * w, 1);
        }
        return x;
    }

    // ---- promise 20: fewest, refused

    @Says("NONE: what; BAD: set (bits of PEOPLE there are); -6.")
    void p20_noSuchWhat() {
        unchanged(x -> x.fewest(15, -1), NONE);
        unchanged(x -> x.fewest(15, 1), NONE);
        unchanged(x -> x.fewest(15, 9), NONE);
        unchanged(x -> x.fewest(15, 14), NONE);
        unchanged(x -> x.fewest(15, MIN), NONE);
        unchanged(x -> x.fewest(15, MIN + 10), NONE);
        unchanged(x -> x.fewest(15, MAX), NONE);
    }

    @Says("what 10 and p which vintage PERSON p HAS (-5: none)")
    void p20_whatOfSixPeople() {
        times(6, () -> x.person(0, 0, 60, 90));
        is(x.fewest(63, 15), NOTHING);
        is(x.fewest(63, 16), NONE);
        is(new DrunkByYear().fewest(0, 10), NONE);
    }

    @Says("NONE: what; BAD: set (bits of PEOPLE there are); -6.")
    void p20_setTooSmall() {
        unchanged(x -> x.fewest(-1, 0), BAD);
        unchanged(x -> x.fewest(MIN, 0), BAD);
    }

    @Says("NONE: what; BAD: set (bits of PEOPLE there are); -6.")
    void p20_setOfThoseWhoAreNot() {
        unchanged(x -> x.fewest(16, 0), BAD);
        unchanged(x -> x.fewest(17, 0), BAD);
        unchanged(x -> x.fewest(MAX, 10), BAD);
        is(x.fewest(1, 0), BAD);
        times(6, () -> x.person(0, 0, 60, 90));
        is(x.fewest(63, 0), 0);
        is(x.fewest(64, 0), BAD);
    }

    @Says("NONE: what; BAD: set (bits of PEOPLE there are); -6.")
    void p20_noneAheadOfBad() {
        unchanged(x -> x.fewest(16, 14), NONE);
        unchanged(x -> x.fewest(-1, 1), NONE);
    }

    @Says("NONE: what; BAD: set (bits of PEOPLE there are); -6.")
    void p20_noneAndBadAheadOfNoSeating() {
        x = party();
        is(x.fewest(3, 0), NO_SEATING);
        is(x.fewest(3, 13), NONE);
        is(x.fewest(11, 0), BAD);
    }

    @Says("-6 there is no such SEATING.")
    void p20_noSeatingWhateverIsAsked() {
        x = party();
        fewest(3, NO_SEATING, NO_SEATING, NO_SEATING, NO_SEATING);
        unchanged(SeatingSentences::party, x -> x.fewest(3, 0), NO_SEATING);
    }

    // ---- promise 20: fewest

    @Says("what 0 how many")
    void p20_nobodyAmongNobody() {
        is(x.fewest(0, 0), 0);
        x.vintage(80, 1);
        is(x.fewest(0, 0), 0);
    }

    @Says("of all SEATINGS by which just these are HERE")
    void p20_justThese() {
        x = party();
        fewest(7, 2, 0, 1, NOTHING);
        fewest(4, 0, NOTHING, NOTHING, NOTHING);
        fewest(5, 1, 0, NOTHING, NOTHING);
        fewest(6, 1, NOTHING, 0, NOTHING);
        fewest(0, 1, NOTHING, NOTHING, 0);
        fewest(1, 2, 0, NOTHING, 1);
        fewest(2, 2, NOTHING, 0, 1);
        fewest(3, NO_SEATING, NO_SEATING, NO_SEATING, NO_SEATING);
    }

    @Says("of those in which fewest HAVE one, the first: how many; what each HAS")
    void p20_noneIsAheadOfVintage0() {
        x.person(0, 0, 60, 90);
        x.vintage(80, 1);
        fewest(1, 0, NOTHING);
    }

    @Says("Of SEATINGS that one comes first that is first as a row by numbers, none ahead of VINTAGE 0.")
    void p20_ofSeveralTheFirst() {
        x.person(0, 0, 110, 90);
        x.person(0, 0, 110, 90);
        x.vintage(100, 1);
        x.vintage(120, 1);
        x.vintage(125, 9);
        fewest(3, 2, 1, 2);
        x.stock(1, 2);
        fewest(3, 2, 1, 1);
        fewest(1, 1, 1, NOTHING);
    }

    @Says("no VINTAGE more often than it has BOTTLES")
    void p20_asManyAsThereAreBottles() {
        times(6, () -> x.person(0, 0, 110, 90));
        x.vintage(120, 6);
        fewest(63, 6, 0, 0, 0, 0, 0, 0);
        x.stock(0, 5);
        is(x.fewest(63, 0), NO_SEATING);
        fewest(31, 5, 0, 0, 0, 0, 0, NOTHING);
        x.stock(0, 0);
        is(x.fewest(1, 0), NO_SEATING);
        is(x.fewest(0, 0), 0);
    }

    @Says("(what all HAVE now is not looked at, nor given back)")
    void p20_whatTheyHaveIsNotLookedAt() {
        x = party();
        x.vintage(130, 5);
        x.pour(2, 2);
        is(x.told(3), 0);
        fewest(4, 0, NOTHING, NOTHING, NOTHING);
        fewest(0, 1, NOTHING, NOTHING, 0);
        is(x.of(2, 4), 2);
    }

    @Says("(what all HAVE now is not looked at, nor given back)")
    void p20_whatTheyHaveIsNotGivenBack() {
        x.person(0, 0, 110, 90);
        x.vintage(120, 1);
        fewest(1, 1, 0);
        x.pour(0, 0);
        fewest(1, NO_SEATING, NO_SEATING);
        is(x.of(0, 6), 1);
    }

    @Says("of those in which fewest HAVE one, the first: how many; what each HAS")
    void p20_oneIsAwayByWineAlone() {
        x.person(0, 0, 60, 90);
        fewest(0, NO_SEATING, NO_SEATING);
        x.vintage(59, 1);
        fewest(0, 1, 0);
        fewest(1, 0, NOTHING);
    }

    @Says("no VINTAGE more often than it has BOTTLES")
    void p20_sixPeopleAndFiveVintages() {
        x = sixAndFive();
        fewest(7, 0, NOTHING, NOTHING, NOTHING, NOTHING, NOTHING, NOTHING);
        fewest(63, 3, NOTHING, NOTHING, NOTHING, 0, 1, 2);
        fewest(15, 1, NOTHING, NOTHING, NOTHING, 0, NOTHING, NOTHING);
        fewest(32, NO_SEATING, NO_SEATING, NO_SEATING, NO_SEATING, NO_SEATING, NO_SEATING, NO_SEATING);
        x.stock(0, 0);
        x.stock(1, 0);
        x.stock(2, 0);
        x.stock(4, 2);
        fewest(63, 3, NOTHING, NOTHING, NOTHING, 3, 4, 4);
    }

    @Says("of all SEATINGS by which just these are HERE")
    void p20_fewerPeopleByAnUndo() {
        x.person(0, 0, 110, 90);
        x.image();
        times(5, () -> x.person(0, 0, 110, 90));
        times(5, () -> x.vintage(120, 2));
        fewest(63, 6, 0, 0, 1, 1, 2, 2);
        x.undo();
        fewest(0, 0, NOTHING);
        fewest(1, NO_SEATING, NO_SEATING);
        is(x.fewest(3, 0), BAD);
        is(x.fewest(1, 11), NONE);
        x.vintage(120, 1);
        fewest(1, 1, 0);
    }

    @Says("All that follows is asked and changes nothing.")
    void p20_changesNothing() {
        unchanged(x -> x.fewest(15, 0), 0);
        unchanged(SeatingSentences::party, x -> x.fewest(1, 12), 1);
    }

    // ---- promise 21: close, refused

    @Says("NONE: what; -6.")
    void p21_noSuchWhat() {
        unchanged(x -> x.close(-1), NONE);
        unchanged(x -> x.close(1), NONE);
        unchanged(x -> x.close(9), NONE);
        unchanged(x -> x.close(14), NONE);
        unchanged(x -> x.close(MIN), NONE);
        unchanged(x -> x.close(MAX), NONE);
        is(x.close(10), NONE);
    }

    @Says("what 10 and p which vintage PERSON p HAS (-5: none)")
    void p21_whatOfSixPeople() {
        times(6, () -> x.person(0, 0, 60, 90));
        is(x.close(15), NOTHING);
        is(x.close(16), NONE);
    }

    @Says("NONE: what; -6.")
    void p21_noSeatingWhateverIsAsked() {
        x.person(0, 0, 60, 90);
        x.person(0, 0, 110, 90);
        x.vintage(105, 9);
        close(NO_SEATING, NO_SEATING, NO_SEATING);
        is(x.close(12), NONE);
    }

    @Says("of all SEATINGS by which all are HERE")
    void p21_noSeatingForWantOfBottles() {
        x = party();
        x.stock(0, 0);
        is(x.close(0), NO_SEATING);
        x.stock(1, 2);
        is(x.close(0), 30);
    }

    // ---- promise 21: close

    @Says("CLOSE: what 0 how much (nobody is there: 0).")
    void p21_nobodyIsThere() {
        is(x.close(0), 0);
        x.vintage(80, 1);
        is(x.close(0), 0);
    }

    @Says("CLOSE: what 0 how much (nobody is there: 0).")
    void p21_oneAlone() {
        x.person(0, 0, 60, 90);
        x.vintage(80, 1);
        close(0, NOTHING);
    }

    @Says("of those by which the greatest AGE less the least is least")
    void p21_theLeast() {
        x.person(0, 0, 60, 90);
        x.person(0, 0, 80, 90);
        x.vintage(81, 9);
        x.vintage(120, 1);
        // 40 and 40 by the second.
        close(0, NOTHING, 1);
        x.stock(1, 0);
        // 21 and 20.
        close(1, 0, NOTHING);
    }

    @Says("of those by which the greatest AGE less the least is least")
    void p21_theGreatestAndTheLeastOfThree() {
        x.person(0, 0, 90, 90);
        x.person(0, 0, 50, 90);
        x.person(0, 0, 70, 90);
        close(40, NOTHING, NOTHING, NOTHING);
        x.vintage(75, 1);
        // 10, 25, 30.
        close(20, NOTHING, 0, NOTHING);
    }

    @Says("of these in which fewest HAVE one, the first: how much; what each HAS")
    void p21_ofTheseFewestHaveOne() {
        x.person(0, 0, 90, 90);
        x.person(0, 0, 90, 90);
        x.vintage(95, 9);
        close(0, NOTHING, NOTHING);
        x.person(0, 0, 80, 90);
        x.vintage(90, 9);
        // All are 10 by the second.
        close(0, NOTHING, NOTHING, 1);
    }

    @Says("of these in which fewest HAVE one, the first: how much; what each HAS")
    void p21_fewestBehindThoseInWhichMoreHaveOne() {
        for (int ahead = 0; ahead <= 1; ahead++) {
            x = new DrunkByYear();
            x.person(0, 0, 90, 90);
            x.person(0, 0, 80, 90);
            x.person(0, 0, 80, 90);
            x.person(0, 0, 110, 90);
            times(ahead, () -> x.vintage(0, 0));
            x.vintage(90, 9);
            x.vintage(110, 9);
            x.vintage(120, 9);
            x.vintage(130, 9);
            int second = ahead + 1, last = ahead + 3;
            // All are 10 by (none, the first, the first, the third), all are 20 by (the second, none, none, the last).
            close(0, second, NOTHING, NOTHING, last);
            x.image();
            times(2, () -> x.person(0, 0, 110, 90));
            close(0, second, NOTHING, NOTHING, last, last, last);
            x.undo();
            close(0, second, NOTHING, NOTHING, last);
        }
    }

    @Says("of those by which the greatest AGE less the least is least")
    void p21_askedAgainWithMoreWine() {
        x.person(0, 0, 75, 90);
        x.person(0, 0, 40, 90);
        close(35, NOTHING, NOTHING);
        x.vintage(60, 1);
        x.vintage(95, 1);
        close(0, 1, 0);
    }

    @Says("of these in which fewest HAVE one, the first: how much; what each HAS")
    void p21_ofTheseTheFirst() {
        x.person(0, 0, 110, 90);
        x.person(0, 0, 110, 90);
        x.vintage(120, 2);
        x.vintage(130, 2);
        x.vintage(120, 2);
        close(0, 0, 0);
        x.stock(0, 1);
        close(0, 0, 2);
        x.stock(2, 0);
        close(0, 1, 1);
    }

    @Says("of these in which fewest HAVE one, the first: how much; what each HAS")
    void p21_ofThoseWithOneHaving() {
        x.person(0, 0, 60, 90);
        x.person(0, 0, 60, 90);
        x.person(0, 0, 50, 90);
        x.vintage(90, 9);
        x.vintage(100, 0);
        // 40, 40 and 40 by the first.
        close(0, NOTHING, NOTHING, 0);
        x.stock(0, 0);
        x.stock(1, 1);
        // 40, 40 and 50, whoever has it.
        close(10, NOTHING, NOTHING, NOTHING);
    }

    @Says("no VINTAGE more often than it has BOTTLES")
    void p21_oneBottleForTwo() {
        x.person(0, 0, 110, 90);
        x.person(0, 0, 110, 90);
        x.vintage(120, 1);
        close(NO_SEATING, NO_SEATING, NO_SEATING);
        x.vintage(125, 1);
        close(5, 0, 1);
        x.stock(0, 2);
        close(0, 0, 0);
    }

    @Says("(what all HAVE now is not looked at, nor given back)")
    void p21_whatTheyHaveNowIsNot() {
        x.person(0, 0, 60, 90);
        x.person(0, 0, 110, 90);
        x.vintage(150, 2);
        x.vintage(10, 1);
        close(0, NOTHING, 0);
        x.pour(0, 1);
        close(0, NOTHING, 0);
        x.pour(1, 0);
        close(0, NOTHING, 0);
        x.pour(1, 0);
        is(x.of(1, 6), 1);
        close(NO_SEATING, NO_SEATING, NO_SEATING);
    }

    @Says("of those by which the greatest AGE less the least is least")
    void p21_sixPeopleAndFiveVintages() {
        x = sixAndFive();
        // 25 without, and five times 20.
        close(5, NOTHING, 0, 1, 2, 3, 4);
        x.stock(4, 9);
        x.stock(2, 0);
        // 25, 20, 20, 30, 30 and 20.
        close(10, NOTHING, 0, 1, 3, 4, 4);
        x.stock(0, 0);
        x.stock(1, 0);
        x.stock(3, 0);
        // 25, 15, 5, 40, 30 and 20.
        close(35, NOTHING, NOTHING, NOTHING, 4, 4, 4);
    }

    @Says("of those by which the greatest AGE less the least is least")
    void p21_fewerPeopleByAnUndo() {
        x.person(0, 0, 60, 90);
        x.person(0, 0, 62, 90);
        x.image();
        times(2, () -> x.person(0, 0, 20, 90));
        times(2, () -> x.person(0, 0, 95, 90));
        times(5, () -> x.vintage(120, 1));
        // 40, 38, twice 80, and 25 by wine for 5.
        close(55, NOTHING, NOTHING, NOTHING, NOTHING, 0, 1);
        x.undo();
        close(2, NOTHING, NOTHING);
        is(x.close(12), NONE);
        x.vintage(98, 1);
        close(0, 0, NOTHING);
    }

    @Says("All that follows is asked and changes nothing.")
    void p21_changesNothing() {
        unchanged(SeatingSentences::party, x -> x.close(0), 30);
        unchanged(SeatingSentences::party, x -> x.close(11), 1);
    }

    // ---- promise 22: boldest

    @Says("BOLDEST: what 0 how much. NONE.")
    void p22_noSuchWhat() {
        unchanged(x -> x.boldest(-1), NONE);
        unchanged(x -> x.boldest(1), NONE);
        unchanged(x -> x.boldest(9), NONE);
        unchanged(x -> x.boldest(14), NONE);
        unchanged(x -> x.boldest(MIN), NONE);
        unchanged(x -> x.boldest(MAX), NONE);
        is(x.boldest(10), NONE);
    }

    @Says("what 10 and p which vintage PERSON p HAS (-5: none)")
    void p22_whatOfSixPeople() {
        times(6, () -> x.person(0, 0, 60, 90));
        is(x.boldest(0), 60);
        is(x.boldest(15), NOTHING);
        is(x.boldest(16), NONE);
    }

    @Says("BOLDEST: what 0 how much. NONE.")
    void p22_nobodyIsThere() {
        is(x.boldest(0), 0);
        x.vintage(80, 1);
        is(x.boldest(0), 0);
    }

    @Says("BOLDEST: of all SEATINGS, of those by which NERVE of all, together, is greatest")
    void p22_nobodyIsHere() {
        x.person(0, 0, 110, 90);
        x.person(0, 0, 120, 90);
        boldest(0, NOTHING, NOTHING);
        x.vintage(105, 9);
        boldest(0, NOTHING, NOTHING);
    }

    @Says("BOLDEST: of all SEATINGS, of those by which NERVE of all, together, is greatest")
    void p22_theGreatestTogether() {
        x = party();
        boldest(30, 0, 1, NOTHING);
        is(village(x, "bold 99 h=0&p=1"), 0);
        boldest(129, 1, 0, NOTHING);
        is(village(x, "bold 9 h=0&p=0;bold 5 h=1&p=0;bold 20 h=0&p=1"), 1);
        boldest(55, 1, 0, NOTHING);
    }

    @Says("BOLDEST: of all SEATINGS, of those by which NERVE of all, together, is greatest")
    void p22_onesNerveIs0AtLeast() {
        x.person(0, 0, 60, 90);
        x.person(0, 0, 60, 90);
        x.vintage(80, 2);
        village("meek 99 p<9&h=9;bold 1 p=1&h=0");
        boldest(21, 0, 0);
        village("meek 99 p<9");
        boldest(0, NOTHING, NOTHING);
    }

    @Says("of these in which fewest HAVE one, the first: how much; what each HAS")
    void p22_ofTheseFewestHaveOne() {
        x.person(0, 0, 60, 90);
        x.vintage(80, 1);
        boldest(10, NOTHING);
        x.person(0, 0, 110, 90);
        x.vintage(120, 1);
        boldest(20, NOTHING, 1);
        village("bold 5 p=0");
        boldest(25, NOTHING, 1);
    }

    @Says("of these in which fewest HAVE one, the first: how much; what each HAS")
    void p22_fewestAheadOfTheFirst() {
        x.person(0, 0, 60, 90);
        x.person(0, 0, 60, 90);
        x.vintage(80, 1);
        x.vintage(90, 1);
        village("bold 5 h=0&p=0;bold 5 h=1&p=0;bold 2 h=1&p=1;bold 7 h=0&p=1");
        // 15 and 17 by two.
        boldest(32, 1, 0);
        village("bold 5 p=0&h=0;bold 5 p=1&h=0");
        boldest(25, NOTHING, 0);
        village("bold 2 p=0&h<9;bold 7 p=1&h=0;bold 5 p=1&h=1");
        boldest(29, 1, 0);
    }

    @Says("of these in which fewest HAVE one, the first: how much; what each HAS")
    void p22_fewestBehindThoseInWhichMoreHaveOne() {
        x.person(0, 0, 60, 90);
        x.person(0, 0, 60, 90);
        x.person(0, 0, 110, 90);
        x.vintage(80, 1);
        x.vintage(80, 1);
        x.vintage(120, 9);
        village("bold 2 p=0&h=0;bold 5 p=0&h=1;bold 3 p=1&h=1");
        // 12, 13 and 10 by (0, 1, 2), 15, 10 and 10 by (1, none, 2).
        boldest(35, 1, NOTHING, 2);
        x.image();
        times(3, () -> x.person(0, 0, 110, 90));
        boldest(65, 1, NOTHING, 2, 2, 2, 2);
        x.undo();
        boldest(35, 1, NOTHING, 2);
    }

    @Says("of these in which fewest HAVE one, the first: how much; what each HAS")
    void p22_ofTheseTheFirst() {
        x.person(0, 0, 60, 90);
        x.person(0, 0, 60, 90);
        x.vintage(80, 1);
        x.vintage(80, 1);
        village("bold 5 h<2");
        boldest(30, 0, 1);
        x.stock(0, 0);
        boldest(25, NOTHING, 1);
        x.stock(0, 2);
        boldest(30, 0, 0);
    }

    @Says("no VINTAGE more often than it has BOTTLES")
    void p22_asManyAsThereAreBottles() {
        times(6, () -> x.person(0, 0, 60, 90));
        x.vintage(80, 2);
        village("bold 5 h=0");
        boldest(70, NOTHING, NOTHING, NOTHING, NOTHING, 0, 0);
        x.stock(0, 6);
        boldest(90, 0, 0, 0, 0, 0, 0);
        x.stock(0, 0);
        boldest(60, NOTHING, NOTHING, NOTHING, NOTHING, NOTHING, NOTHING);
    }

    @Says("(what all HAVE now is not looked at, nor given back)")
    void p22_whatTheyHaveNowIsNot() {
        x.person(0, 0, 60, 90);
        x.person(0, 0, 60, 90);
        x.vintage(80, 1);
        x.vintage(10, 1);
        village("bold 5 h=0");
        boldest(25, NOTHING, 0);
        x.pour(0, 1);
        boldest(25, NOTHING, 0);
        x.pour(0, 0);
        is(x.of(0, 8), 15);
        boldest(20, NOTHING, NOTHING);
    }

    @Says("BOLDEST: of all SEATINGS, of those by which NERVE of all, together, is greatest")
    void p22_sixPeopleAndFiveVintages() {
        x = sixAndFive();
        boldest(60, NOTHING, NOTHING, NOTHING, 0, 1, 2);
        village(x, "bold 1 h<4;bold 9 h=4&p=0");
        boldest(73, 4, NOTHING, 0, 1, 2, 3);
        x.stock(4, 6);
        village(x, "bold 1 h=4");
        boldest(66, 4, 4, 4, 4, 4, 4);
    }

    @Says("of these in which fewest HAVE one, the first: how much; what each HAS")
    void p22_fewerPeopleByAnUndo() {
        x.person(0, 0, 60, 90);
        x.person(0, 0, 60, 90);
        x.vintage(80, 2);
        x.image();
        times(4, () -> x.person(0, 0, 110, 90));
        times(4, () -> x.vintage(120, 1));
        boldest(60, NOTHING, NOTHING, 1, 2, 3, 4);
        x.undo();
        boldest(20, NOTHING, NOTHING);
        village("bold 5 h=0&p=0");
        boldest(25, 0, NOTHING);
        is(x.boldest(12), NONE);
    }

    @Says("All that follows is asked and changes nothing.")
    void p22_changesNothing() {
        unchanged(SeatingSentences::party, x -> x.boldest(0), 30);
        unchanged(x -> x.boldest(13), 1);
    }
}
