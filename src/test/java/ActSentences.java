import java.util.function.Consumer;

/** Promises 33 to 38: acts, the image. */
final class ActSentences extends Sentences {

    private static final int DRINKS = 0, AGES = 1, TELLS = 2;

    /** An act of the only one there is, number 0. */
    private void acts(int kind, int v, int act, int number, int due) {
        x = new DrunkByYear();
        x.person(kind, v, 60, 90);
        is(x.act(0, act, number), due);
    }

    /** An act of number 5. */
    private void actsAsNumber5(int kind, int v, int act, int number, int due) {
        x = new DrunkByYear();
        times(5, () -> x.person(0, 0, 60, 90));
        x.person(kind, v, 60, 90);
        is(x.act(5, act, number), due);
    }

    private void traceIs(int... bodies) {
        is(x.count(6), bodies.length);
        for (int i = 0; i < bodies.length; i++) {
            is(x.trace(i), bodies[i]);
        }
        is(x.trace(bodies.length), NONE);
    }

    // ---- promise 33: act, refused

    private void noTraceThen(int person, int act) {
        x = rich();
        is(x.count(6), 7);
        is(x.act(person, act, 5), 0);
        is(x.count(6), 0);
        is(x.trace(0), NONE);
    }

    @Says("0, and no TRACE then: no such PERSON, act.")
    void p33_noSuchPerson() {
        noTraceThen(-1, DRINKS);
        noTraceThen(4, DRINKS);
        noTraceThen(MIN, AGES);
        noTraceThen(MAX, TELLS);
        is(new DrunkByYear().act(0, DRINKS, 5), 0);
    }

    @Says("An ACT (0 drinks, 1 ages, 2 tells) of a PERSON with x. 0, and no TRACE then: no such PERSON, act.")
    void p33_noSuchAct() {
        noTraceThen(0, -1);
        noTraceThen(0, 3);
        noTraceThen(0, MIN);
        noTraceThen(0, MAX);
    }

    @Says("0, and no TRACE then: no such PERSON, act.")
    void p33_byARefusalAllElseStays() {
        unchanged(() -> {
            DrunkByYear x = rich();
            x.act(4, DRINKS, 5);
            return x;
        }, x -> x.act(0, 3, 5), 0);
    }

    @Says("All that follows is asked and changes nothing.")
    void p33_anActChangesNothingElse() {
        unchanged(x -> x.act(3, TELLS, 7), 49);
    }

    // ---- promise 33: the bodies

    @Says("1 drinks: x + i.")
    void p33_drinksOfAPersonWraps() {
        acts(0, 3, DRINKS, 10, 10);
        actsAsNumber5(0, 3, DRINKS, 10, 15);
        actsAsNumber5(0, 3, DRINKS, MAX, MIN + 4);
        actsAsNumber5(0, 3, DRINKS, MIN, MIN + 5);
    }

    @Says("2 ages: drinks(x) - v.")
    void p33_agesOfAPersonWraps() {
        acts(0, 3, AGES, 10, 7);
        acts(0, 3, AGES, MIN, MAX - 2);
        actsAsNumber5(0, 9, AGES, 0, -4);
        actsAsNumber5(0, 5, AGES, MAX, MAX);
    }

    @Says("3 tells: ages(x) * 2.")
    void p33_tellsOfAPersonWraps() {
        acts(0, 3, TELLS, 10, 14);
        acts(0, 0, TELLS, 1 << 30, MIN);
        acts(0, 0, TELLS, MIN, 0);
        acts(0, 0, TELLS, MAX, -2);
    }

    @Says("11 drinks: super.drinks(x * 3).")
    void p33_drinksOfAHeavyOneWraps() {
        acts(1, 3, DRINKS, 10, 30);
        actsAsNumber5(1, 3, DRINKS, 10, 35);
        acts(1, 0, DRINKS, MAX, MAX - 2);
        acts(1, 0, DRINKS, 715827883, MIN + 1);
        acts(1, 0, DRINKS, MIN, MIN);
    }

    @Says("drinks(..) and so on: the body of its KIND")
    void p33_agesAndTellsOfAHeavyOneDrinkItsOwnWay() {
        acts(1, 3, AGES, 10, 27);
        acts(1, 3, TELLS, 10, 54);
    }

    @Says("21 ages: -super.ages(x).")
    void p33_agesOfALightOneWraps() {
        acts(2, 3, AGES, 10, -7);
        acts(2, 3, AGES, 3, 0);
        acts(2, 0, AGES, MIN, MIN);
        acts(2, 0, AGES, MAX, MIN + 1);
        acts(2, 3, TELLS, 10, -14);
        acts(2, 3, DRINKS, 10, 10);
    }

    @Says("31 tells: super.tells(x) ^ 7.")
    void p33_tellsOfASteadyOne() {
        acts(3, 3, TELLS, 10, 14 ^ 7);
        acts(3, 0, TELLS, 0, 7);
        acts(3, 0, TELLS, -1, -2 ^ 7);
        acts(3, 0, TELLS, 1 << 30, MIN + 7);
        acts(3, 3, AGES, 10, 7);
    }

    @Says("41 tells: super.tells(x - 1) + drinks(2).")
    void p33_tellsOfADeepOneWraps() {
        acts(4, 3, TELLS, 10, 48 + 6);
        // 3 times MAX is MAX - 2, twice that -6, and 6 more.
        acts(4, 0, TELLS, MIN, 0);
        // 3 times 357913941, twice that MAX - 1, and 6 more.
        acts(4, 0, TELLS, 357913942, MIN + 4);
        actsAsNumber5(4, 3, TELLS, 10, 2 * (27 + 5 - 3) + 6 + 5);
        acts(4, 3, DRINKS, 10, 30);
        acts(4, 3, AGES, 10, 27);
    }

    @Says("51 drinks: super.drinks(x) ^ i.")
    void p33_drinksOfASippingOneWraps() {
        acts(5, 3, DRINKS, 10, 10);
        actsAsNumber5(5, 3, DRINKS, 10, 15 ^ 5);
        actsAsNumber5(5, 3, DRINKS, MAX, (MIN + 4) ^ 5);
        actsAsNumber5(5, 3, AGES, 10, -((15 ^ 5) - 3));
        actsAsNumber5(5, 3, TELLS, 10, -2 * ((15 ^ 5) - 3));
    }

    @Says("61 ages: super.ages(x) + v.")
    void p33_agesOfAToldOneWraps() {
        acts(6, 4, AGES, 10, 10);
        acts(6, 9, AGES, MIN, MIN);
        actsAsNumber5(6, 9, AGES, MAX, MIN + 4);
        acts(6, 4, TELLS, 10, 20 ^ 7);
        acts(6, 4, DRINKS, 10, 10);
    }

    @Says("ACTS of a PERSON with x (ints, wrapping): drinks, ages, tells; i its number.")
    void p33_noneNeedBeHere() {
        x.person(0, 3, 199, 0);
        is(x.of(0, 6), 0);
        is(x.act(0, AGES, 10), 7);
    }

    // ---- promise 34: trace

    @Says("THE TRACE's i-th body. NONE.")
    void p34_noneBeforeAnyAct() {
        is(x.trace(0), NONE);
        x.person(0, 0, 60, 90);
        is(x.trace(0), NONE);
    }

    @Says("THE TRACE's i-th body. NONE.")
    void p34_iTooSmall() {
        unchanged(x -> x.trace(-1), NONE);
        unchanged(x -> x.trace(MIN), NONE);
    }

    @Says("THE TRACE's i-th body. NONE.")
    void p34_iTooLarge() {
        unchanged(x -> x.trace(7), NONE);
        unchanged(x -> x.trace(19), NONE);
        unchanged(x -> x.trace(20), NONE);
        unchanged(x -> x.trace(21), NONE);
        unchanged(x -> x.trace(MAX), NONE);
    }

    @Says("THE TRACE's i-th body. NONE.")
    void p34_theFirstAndTheLast() {
        unchanged(x -> x.trace(0), 41);
        unchanged(x -> x.trace(6), 1);
    }

    @Says("the first 20 are kept")
    void p34_noActRunsMoreThanAreKept() {
        int most = 0;
        for (int kind = 0; kind <= 6; kind++) {
            for (int act = DRINKS; act <= TELLS; act++) {
                x = new DrunkByYear();
                x.person(kind, 3, 60, 90);
                x.act(0, act, 1);
                most = Math.max(most, x.count(6));
                for (int i = 0; i < x.count(6); i++) {
                    is(x.trace(i) > 0 ? 1 : 0, 1);
                }
                is(x.trace(x.count(6)), NONE);
            }
        }
        is(most, 7);
    }

    @Says("THE TRACE: the numbers of the bodies that ran in the latest act(), as they began")
    void p34_theLatestAct() {
        x = rich();
        traceIs(41, 3, 2, 11, 1, 11, 1);
        x.act(0, DRINKS, 1);
        traceIs(1);
        x.act(3, AGES, 1);
        traceIs(2, 11, 1);
    }

    @Says("THE TRACE: the numbers of the bodies that ran in the latest act(), as they began")
    void p34_noneByARefusedOne() {
        x = rich();
        x.act(4, DRINKS, 1);
        traceIs();
        x.act(0, AGES, 1);
        x.act(0, 3, 1);
        traceIs();
    }

    @Says("or, if that has none, of the next KIND above that has one")
    void p34_theNextKindAboveThatHasOne() {
        int[][] drinks = {{1}, {11, 1}, {1}, {1}, {11, 1}, {51, 1}, {1}};
        int[][] ages = {{2, 1}, {2, 11, 1}, {21, 2, 1}, {2, 1}, {2, 11, 1}, {21, 2, 51, 1}, {61, 2, 1}};
        for (int kind = 0; kind <= 6; kind++) {
            x = new DrunkByYear();
            x.person(kind, 3, 60, 90);
            x.act(0, DRINKS, 1);
            traceIs(drinks[kind]);
            x.act(0, AGES, 1);
            traceIs(ages[kind]);
        }
    }

    @Says("super.drinks(..): so from the KIND above the body's on")
    void p34_fromTheKindAboveTheBodysOn() {
        int[][] tells = {{3, 2, 1}, {3, 2, 11, 1}, {3, 21, 2, 1}, {31, 3, 2, 1}, {41, 3, 2, 11, 1, 11, 1},
            {3, 21, 2, 51, 1}, {31, 3, 61, 2, 1}};
        for (int kind = 0; kind <= 6; kind++) {
            x = new DrunkByYear();
            x.person(kind, 3, 60, 90);
            x.act(0, TELLS, 1);
            traceIs(tells[kind]);
        }
    }

    @Says("what stands in a body is done from the left on")
    void p34_fromTheLeftOn() {
        x.person(4, 3, 60, 90);
        x.act(0, TELLS, 1);
        is(x.trace(1), 3);
        is(x.trace(5), 11);
    }

    // ---- promise 35: as

    @Says("NONE: person, k")
    void p35_noSuchPerson() {
        noSuch(4, (x, n) -> x.as(n, 0), NONE);
    }

    @Says("NONE: person, k")
    void p35_noSuchKind() {
        noSuch(7, (x, n) -> x.as(0, n), NONE);
    }

    @Says("-6: it is of another KIND.")
    void p35_anotherKind() {
        String[] not = {"123456", "23456", "13456", "12456", "2356", "1346", "1245"};
        for (int kind = 0; kind <= 6; kind++) {
            x = new DrunkByYear();
            x.person(kind, 8, 60, 90);
            for (char k : not[kind].toCharArray()) {
                is(x.as(0, k - '0'), NO_SEATING);
            }
        }
    }

    @Says("0 PERSON; 1 HEAVY, 2 LIGHT, 3 STEADY under PERSON; 4 DEEP under HEAVY; 5 SIPPING under LIGHT; 6 TOLD under STEADY")
    void p35_itsKindAndThoseAbove() {
        String[] of = {"0", "01", "02", "03", "014", "025", "036"};
        for (int kind = 0; kind <= 6; kind++) {
            x = new DrunkByYear();
            x.person(kind, 8, 60, 90);
            for (char k : of[kind].toCharArray()) {
                is(x.as(0, k - '0'), 8);
            }
        }
    }

    @Says("A PERSON taken for a KIND k (0 .. 6), or one under that: its v.")
    void p35_v0AndV9() {
        x.person(6, 0, 60, 90);
        x.person(6, 9, 60, 90);
        unchanged(x -> x.as(3, 1), 1);
        is(x.as(0, 6), 0);
        is(x.as(1, 0), 9);
    }

    // ---- promise 36: image

    @Says("THE IMAGE is taken: how many PERSONS there are.")
    void p36_ofNobody() {
        is(x.image(), 0);
        x.person(0, 0, 60, 90);
        is(x.undo(), 0);
        is(x.count(0), 0);
    }

    @Says("THE IMAGE is taken: how many PERSONS there are.")
    void p36_ofSix() {
        times(6, () -> x.person(4, 0, 60, 90));
        is(x.image(), 6);
        is(x.undo(), 6);
    }

    @Says("THE IMAGE is taken: how many PERSONS there are.")
    void p36_aNewerImageInThePlaceOfTheOther() {
        x.image();
        x.person(0, 0, 60, 90);
        is(x.image(), 1);
        x.person(0, 0, 60, 90);
        is(x.undo(), 1);
        is(x.undo(), 1);
    }

    @Says("THE IMAGE is taken: how many PERSONS there are.")
    void p36_changesNothingElse() {
        DrunkByYear asked = rich(), left = rich();
        is(asked.image(), 4);
        for (int what = 0; what <= 7; what++) {
            is(asked.count(what), left.count(what));
        }
        feed(asked, "5");
        is(asked.village(), 1);
        is(asked.told(2), 35);
        is(asked.undo(), 4);
        is(asked.told(2), 50);
    }

    // ---- promise 37: undo

    @Says("All is as THE IMAGE: how many PERSONS. STATE: there is none.")
    void p37_thereIsNoImage() {
        is(x.undo(), STATE);
        unchanged(() -> {
            DrunkByYear x = new DrunkByYear();
            x.person(6, 3, 60, 90);
            x.vintage(90, 2);
            x.pour(0, 0);
            feed(x, "old ");
            x.act(0, TELLS, 1);
            return x;
        }, DrunkByYear::undo, STATE);
    }

    @Says("All is as THE IMAGE: how many PERSONS. STATE: there is none.")
    void p37_atOnceBehindTheImage() {
        unchanged(() -> {
            DrunkByYear x = rich();
            x.image();
            return x;
        }, DrunkByYear::undo, 4);
    }

    /** Whatever is done behind an image, an undo takes it back. */
    private void takesBack(Consumer<DrunkByYear> done) {
        unchanged(() -> {
            DrunkByYear x = rich();
            x.image();
            return x;
        }, x -> {
            done.accept(x);
            long answer = x.undo();
            x.act(3, TELLS, 7);
            return answer;
        }, 4);
    }

    @Says("THE IMAGE: all that there is (but THE IMAGE and THE TRACE).")
    void p37_peopleAndVintages() {
        takesBack(x -> x.person(0, 0, 0, 0));
        takesBack(x -> x.vintage(0, 0));
        takesBack(x -> x.blend(0, 1));
        takesBack(x -> x.stock(2, 9));
        takesBack(x -> x.stock(0, 99));
    }

    @Says("THE IMAGE: all that there is (but THE IMAGE and THE TRACE).")
    void p37_whatAllHaveAndTheYear() {
        takesBack(x -> x.pour(1, 0));
        takesBack(x -> x.dry(0));
        takesBack(x -> x.dawn(1));
        takesBack(x -> x.dawn(99));
    }

    @Says("THE IMAGE: all that there is (but THE IMAGE and THE TRACE).")
    void p37_rows() {
        takesBack(x -> x.row(2, 0, 1));
        takesBack(x -> x.row(2, 3, 0));
    }

    @Says("THE IMAGE: all that there is (but THE IMAGE and THE TRACE).")
    void p37_theTape() {
        takesBack(x -> x.feed('7'));
        takesBack(x -> x.feed('x'));
        takesBack(x -> x.village());
        takesBack(x -> village(x, "7;grown 3"));
        takesBack(x -> {
            x.village();
            feed(x, "meek");
        });
    }

    @Says("THE IMAGE: all that there is (but THE IMAGE and THE TRACE).")
    void p37_villages() {
        takesBack(x -> village(x, "0;bold 9 p=0"));
        takesBack(x -> times(4, () -> village(x, x.count(5) > 0 ? "0" : "grown 9;bold 7 p=2")));
        takesBack(x -> {
            x.village();
            village(x, "grown 9;bold 7 p=2;");
        });
    }

    @Says("THE IMAGE: all that there is (but THE IMAGE and THE TRACE).")
    void p37_noVillageOnceMore() {
        x.person(0, 0, 60, 90);
        x.image();
        village("old 30;grown 20;bold 9 p=0");
        x.undo();
        is(x.count(1), 0);
        is(x.told(1), 18);
        is(x.told(2), 60);
        is(x.of(0, 8), 10);
        is(village("old 7"), 0);
    }

    @Says("THE IMAGE: all that there is (but THE IMAGE and THE TRACE).")
    void p37_anotherVillageOfTheSameNumber() {
        x.person(0, 0, 60, 90);
        is(village("old 30"), 0);
        x.image();
        is(village("old 31"), 1);
        is(village("old 32"), 2);
        x.undo();
        is(x.told(2), 30);
        is(village("old 33"), 1);
        is(x.told(2), 33);
        x.undo();
        is(x.told(2), 30);
        is(village("old"), -13);
        is(x.told(2), 30);
    }

    @Says("THE IMAGE: all that there is (but THE IMAGE and THE TRACE).")
    void p37_seenNightAndBook() {
        takesBack(x -> x.see(0, 31));
        takesBack(x -> x.see(-1, 0));
        takesBack(x -> {
            x.see(-1, 0);
            x.see(0, 7);
            x.see(3, 7);
        });
        takesBack(x -> x.night(0, 0, 0));
        takesBack(x -> x.night(-1, 0, 0));
        takesBack(x -> {
            x.night(-1, 0, 0);
            x.night(2, 1, 0);
            x.night(0, 0, 0);
        });
        takesBack(x -> x.book(0, 31));
        takesBack(x -> x.book(-1, 0));
        takesBack(x -> {
            x.book(-1, 0);
            x.book(0, 31);
            x.book(0, 31);
        });
    }

    @Says("THE IMAGE: all that there is (but THE IMAGE and THE TRACE).")
    void p37_theTraceStays() {
        x = rich();
        x.image();
        x.act(0, AGES, 1);
        x.undo();
        traceIs(2, 1);
        x.act(9, AGES, 1);
        x.undo();
        traceIs();
    }

    @Says("THE IMAGE: all that there is (but THE IMAGE and THE TRACE).")
    void p37_theImageStays() {
        x.person(0, 0, 60, 90);
        x.image();
        for (int again = 0; again < 3; again++) {
            x.person(0, 0, 60, 90);
            x.dawn(5);
            is(x.undo(), 1);
            is(x.told(0), 100);
        }
    }

    @Says("THE IMAGE: all that there is (but THE IMAGE and THE TRACE).")
    void p37_whatFollowsLeavesTheImage() {
        x = rich();
        x.image();
        x.undo();
        x.dawn(3);
        x.stock(0, 7);
        x.row(2, 1, 0);
        x.feed('9');
        x.book(-1, 0);
        is(x.undo(), 4);
        is(x.told(0), 100);
        is(x.wine(0, 1), 2);
        is(x.row(2, 1, 0), 6);
        is(x.count(5), 5);
        is(x.count(4), 2);
    }

    @Says("All is as THE IMAGE: how many PERSONS. STATE: there is none.")
    void p37_fromFullToEmpty() {
        x.image();
        times(6, () -> x.person(0, 0, 60, 90));
        times(5, () -> x.vintage(80, 5));
        times(5, () -> village("old 7"));
        times(5, () -> x.see(0, 40));
        times(8, () -> x.night(0, 0, 0));
        times(8, () -> x.book(0, 40));
        times(100, () -> x.feed('o'));
        is(x.undo(), 0);
        for (int what = 0; what <= 7; what++) {
            is(x.count(what), 0);
        }
        is(x.person(0, 0, 60, 90), 0);
        is(x.vintage(80, 5), 0);
        is(x.see(0, 40), 1);
        is(x.night(0, 0, 0), 1);
        is(x.book(0, 40), 1);
        is(village("old 7"), 0);
    }

    // ---- promise 38: count

    @Says("NONE.")
    void p38_noSuchWhat() {
        noSuch(8, (x, n) -> x.count(n), NONE);
    }

    @Says("0 PEOPLE, 1 VILLAGES, 2 of SEEN, 3 of the NIGHT, 4 rows of BOOK, 5 signs of THE TAPE")
    void p38_allAreFull() {
        times(6, () -> x.person(0, 0, 60, 90));
        times(5, () -> x.vintage(80, 5));
        times(5, () -> village("old 7"));
        times(6, () -> x.see(0, 40));
        times(9, () -> x.night(0, 0, 0));
        times(9, () -> x.book(0, 40));
        times(101, () -> x.feed('o'));
        int[] due = {6, 5, 5, 8, 8, 100, 0, 5};
        for (int what = 0; what <= 7; what++) {
            is(x.count(what), due[what]);
        }
    }

    @Says("6 bodies that ran in the latest act() (all, kept or not), 7 VINTAGES")
    void p38_theBodiesOfTheLatestAct() {
        unchanged(x -> x.count(6), 7);
        x = rich();
        x.act(0, DRINKS, 1);
        is(x.count(6), 1);
        x.act(0, -1, 1);
        is(x.count(6), 0);
    }

    @Says("0 PEOPLE, 1 VILLAGES, 2 of SEEN, 3 of the NIGHT, 4 rows of BOOK, 5 signs of THE TAPE")
    void p38_eachOfItsOwn() {
        int[] due = {4, 1, 2, 2, 2, 5, 7, 3};
        for (int what = 0; what <= 7; what++) {
            int asked = what;
            unchanged(x -> x.count(asked), due[what]);
        }
    }
}
