/** Promises 24 to 34, and steps 2 to 4 of a minute. */
final class MinutePromises {
    private static final Class<IndexOutOfBoundsException> INDEX = IndexOutOfBoundsException.class;
    private static final Class<IllegalArgumentException> ARGUMENT = IllegalArgumentException.class;

    private MinutePromises() {
    }

    static void run() {
        promise24Pass();
        promise25PredictCaught();
        promise25PredictionHolds();
        promise26SetRate();
        promise27And28Seed();
        promise29Minute();
        promises30To34Mice();
        stepTwoCatching();
        stepTwoBlindShelf();
        stepTwoAfterTheWalk();
        stepThreeEating();
        stepThreeMoving();
        stepThreeLeaving();
        stepThreeInOrder();
        aNewMouseBringsNothingAlong();
        theHungryMoveUp();
        hungerMovesUpAfterACatch();
        stepFourSeedAndRate();
        stepFourAtMostEight();
    }

    private static void promise24Pass() {
        LarderPatrol x = Larders.withCheese(9);
        Checks.dueThrow("24 none", ARGUMENT, () -> x.pass(0));
        Checks.dueThrow("24 below", ARGUMENT, () -> x.pass(-1));
        Checks.dueThrow("24 above", ARGUMENT, () -> x.pass(61));
        Checks.due("24 nothing passed", 0, x::minute);
        x.setRate(16);
        Checks.due("24 the first mouse comes last", 0, () -> x.pass(1));
        Checks.due("24 a mouse each minute", 1, () -> x.pass(1));
        Checks.due("24 sixty", 60, () -> x.pass(60));
        Checks.due("24 only of these minutes", 61, x::caught);
    }

    private static void promise25PredictCaught() {
        LarderPatrol x = Larders.withCheese(9);
        x.setRate(16);
        Checks.dueThrow("25 below", ARGUMENT, () -> x.predictCaught(-1));
        Checks.dueThrow("25 above", ARGUMENT, () -> x.predictCaught(61));
        Checks.due("25 none", 0, () -> x.predictCaught(0));
        Checks.due("25 one", 0, () -> x.predictCaught(1));
        Checks.due("25 sixty", 59, () -> x.predictCaught(60));
        Checks.due("25 no shelves", 0, () -> new LarderPatrol().predictCaught(60));
        Checks.due("25 seed stays", 0, x::seed);
        Checks.due("25 minute stays", 0, x::minute);
        Checks.due("25 no mice", 0, x::mouseCount);
        Checks.due("25 no account", 0, x::caught);
        Checks.due("25 no change", 2, x::undoCount);
        x.pass(3);
        Checks.due("25 only those to come", 4, () -> x.predictCaught(4));
        Checks.due("25 caught before stays", 2, x::caught);
    }

    private static void promise25PredictionHolds() {
        LarderPatrol x = Larders.inARow(20, 3, 0, 9, 1);
        x.link(4, 0);
        x.setBlind(2, true);
        x.addStop(3);
        x.addStop(0);
        x.setRate(11);
        for (int minutes = 1; minutes <= 60; minutes += 7) {
            int asked = minutes;
            Checks.due("25 as pass answers", x.predictCaught(asked), () -> x.pass(asked));
        }
        Checks.dueTrue("25 some were caught", x.caught() > 0);
    }

    private static void promise26SetRate() {
        LarderPatrol x = new LarderPatrol();
        Checks.dueThrow("26 below", ARGUMENT, () -> x.setRate(-1));
        Checks.dueThrow("26 above", ARGUMENT, () -> x.setRate(17));
        Checks.due("26 first", 4, () -> x.setRate(16));
        Checks.due("26 second", 16, () -> x.setRate(0));
        Checks.due("26 the same", 0, () -> x.setRate(0));
    }

    private static void promise27And28Seed() {
        LarderPatrol x = new LarderPatrol();
        Checks.dueThrow("27 below", ARGUMENT, () -> x.setSeed(-1));
        Checks.dueThrow("27 above", ARGUMENT, () -> x.setSeed(1024));
        Checks.due("27 first", 0, () -> x.setSeed(1023));
        Checks.due("28 seed", 1023, x::seed);
        x.pass(1);
        Checks.due("28 after a minute", (1023 * 109 + 89) % 1024, x::seed);
        Checks.due("27 before", 1004, () -> x.setSeed(0));
        Checks.due("28 set", 0, x::seed);
    }

    private static void promise29Minute() {
        LarderPatrol x = new LarderPatrol();
        x.pass(60);
        x.pass(1);
        Checks.due("29 sum", 61, x::minute);
    }

    private static void promises30To34Mice() {
        LarderPatrol x = Larders.withCheese(9, 9, 9);
        Checks.dueThrow("31 none", INDEX, () -> x.mouseShelf(0));
        Larders.letMouseAppear(x, 2);
        Larders.letMouseAppear(x, 1);
        Larders.letMouseAppear(x, 2);
        Checks.due("30 mice", 3, x::mouseCount);
        Checks.due("31 first", 2, () -> x.mouseShelf(0));
        Checks.due("31 second", 1, () -> x.mouseShelf(1));
        Checks.due("32 first", 2, () -> x.mouseEaten(0));
        Checks.due("32 second", 1, () -> x.mouseEaten(1));
        Checks.due("32 third", 0, () -> x.mouseEaten(2));
        Checks.due("33 fed", 0, () -> x.mouseHunger(0));
        Checks.due("33 new", 0, () -> x.mouseHunger(2));
        Checks.due("34 two", 2, () -> x.miceOn(2));
        Checks.due("34 one", 1, () -> x.miceOn(1));
        Checks.due("34 none", 0, () -> x.miceOn(0));
        Checks.dueThrow("31 below", INDEX, () -> x.mouseShelf(-1));
        Checks.dueThrow("31 above", INDEX, () -> x.mouseShelf(3));
        Checks.dueThrow("32 below", INDEX, () -> x.mouseEaten(-1));
        Checks.dueThrow("32 above", INDEX, () -> x.mouseEaten(3));
        Checks.dueThrow("33 below", INDEX, () -> x.mouseHunger(-1));
        Checks.dueThrow("33 above", INDEX, () -> x.mouseHunger(3));
        Checks.dueThrow("34 below", INDEX, () -> x.miceOn(-1));
        Checks.dueThrow("34 above", INDEX, () -> x.miceOn(3));
    }

    /** The mice on the shelf of the cat go; the others keep their order and move up. */
    private static void stepTwoCatching() {
        LarderPatrol x = Larders.withCheese(9, 9, 9);
        x.setBlind(0, true);
        int[] shelves = {1, 0, 2, 0};
        for (int shelf : shelves) {
            Larders.letMouseAppear(x, shelf);
        }
        x.setBlind(0, false);
        Checks.due("step 2 two", 2, () -> x.pass(1));
        Checks.due("step 2 left", 2, x::mouseCount);
        Checks.due("step 2 the first stays", 1, () -> x.mouseShelf(0));
        Checks.due("step 2 the third moves up", 2, () -> x.mouseShelf(1));
        Checks.due("step 2 eaten of the first", 4, () -> x.mouseEaten(0));
        Checks.due("step 2 eaten of the third", 2, () -> x.mouseEaten(1));
        Checks.due("step 2 rinds", 2 + 0, x::rinds);
        Checks.due("step 2 none left by hunger", 0, x::gone);
    }

    private static void stepTwoBlindShelf() {
        LarderPatrol x = Larders.withCheese(9);
        x.setBlind(0, true);
        Larders.letMouseAppear(x, 0);
        Checks.due("step 2 hidden", 0, () -> x.pass(3));
        Checks.due("step 2 and eating", 3, () -> x.mouseEaten(0));
        x.setBlind(0, false);
        Checks.due("step 2 seen", 1, () -> x.pass(1));
        Checks.due("step 2 its rinds", 3, x::rinds);
        Checks.due("step 2 no more eaten", 3, x::eaten);
    }

    private static void stepTwoAfterTheWalk() {
        LarderPatrol x = Larders.inARow(9, 9);
        Larders.letMouseAppear(x, 1);
        x.addStop(1);
        Checks.due("step 2 on the new shelf", 1, () -> x.pass(1));
        Checks.due("step 2 before it eats", 0, x::eaten);
    }

    private static void stepThreeEating() {
        LarderPatrol x = Larders.withCheese(9, 2);
        Larders.letMouseAppear(x, 1);
        x.pass(2);
        Checks.due("step 3 eaten up", 0, () -> x.cheese(1));
        Checks.due("step 3 grams", 2, () -> x.mouseEaten(0));
        Checks.due("step 3 not hungry", 0, () -> x.mouseHunger(0));
        x.pass(2);
        Checks.due("step 3 hungry", 2, () -> x.mouseHunger(0));
        Checks.due("step 3 no neighbours", 1, () -> x.mouseShelf(0));
        x.fill(1, 1);
        x.pass(1);
        Checks.due("step 3 hunger 0 again", 0, () -> x.mouseHunger(0));
        Checks.due("step 3 one more", 3, () -> x.mouseEaten(0));
    }

    private static void stepThreeMoving() {
        LarderPatrol x = Larders.withCheese(0, 0, 5, 7, 7, 9);
        x.setRate(0);
        x.link(1, 0);
        x.link(1, 4);
        x.link(1, 3);
        x.link(1, 2);
        Larders.letMouseAppear(x, 1);
        x.pass(1);
        Checks.due("step 3 most cheese, smallest index", 3, () -> x.mouseShelf(0));
        Checks.due("step 3 does not eat as it moves", 0, () -> x.mouseEaten(0));
        Checks.due("step 3 hunger", 1, () -> x.mouseHunger(0));
        LarderPatrol empty = Larders.inARow(0, 0, 0);
        empty.setBlind(0, true);
        Larders.letMouseAppear(empty, 1);
        empty.pass(1);
        Checks.due("step 3 moves to a shelf without cheese", 0, () -> empty.mouseShelf(0));
        empty.pass(1);
        Checks.due("step 3 and back", 1, () -> empty.mouseShelf(0));
    }

    private static void stepThreeLeaving() {
        LarderPatrol x = Larders.withCheese(0, 0, 9);
        Larders.letMouseAppear(x, 1);
        Larders.letMouseAppear(x, 2);
        x.pass(1);
        Checks.due("step 3 hunger 2 is still here", 2, () -> x.mouseHunger(0));
        x.pass(1);
        Checks.due("step 3 hunger 3 leaves", 1, x::mouseCount);
        Checks.due("step 3 gone", 1, x::gone);
        Checks.due("step 3 the other moves up", 2, () -> x.mouseShelf(0));
        Checks.due("step 3 with what it ate", 2, () -> x.mouseEaten(0));
        Checks.due("step 3 no rinds", 0, x::rinds);
        Checks.due("step 3 not caught", 0, x::caught);
    }

    /** Two mice on shelf 1 with one gram: the earlier one eats it, the later one finds none. */
    private static void stepThreeInOrder() {
        LarderPatrol x = Larders.withCheese(0, 2, 6);
        x.link(1, 2);
        Larders.letMouseAppear(x, 1);
        Larders.letMouseAppear(x, 1);
        x.pass(1);
        Checks.due("step 3 the earlier eats", 2, () -> x.mouseEaten(0));
        Checks.due("step 3 the later does not", 0, () -> x.mouseEaten(1));
        Checks.due("step 3 the later moves", 2, () -> x.mouseShelf(1));
        Checks.due("step 3 shelf 1 is empty", 0, () -> x.cheese(1));
    }

    private static void aNewMouseBringsNothingAlong() {
        LarderPatrol x = Larders.withCheese(9, 1);
        Larders.letMouseAppear(x, 1);
        x.pass(4);
        Checks.due("step 3 fed once, then gone", 1, x::gone);
        Larders.letMouseAppear(x, 1);
        Checks.due("step 4 eaten 0", 0, () -> x.mouseEaten(0));
        Checks.due("step 4 hunger 0", 0, () -> x.mouseHunger(0));
        Checks.due("step 3 eaten by the earlier one", 1, x::eaten);
        LarderPatrol y = Larders.withCheese(0, 0);
        y.setBlind(0, true);
        Larders.letMouseAppear(y, 0);
        y.pass(2);
        Checks.due("step 3 hungry", 2, () -> y.mouseHunger(0));
        y.setBlind(0, false);
        y.pass(1);
        Larders.letMouseAppear(y, 1);
        Checks.due("step 4 hunger 0 after a hungry one", 0, () -> y.mouseHunger(0));
    }

    private static void theHungryMoveUp() {
        LarderPatrol x = Larders.withCheese(0, 0, 0);
        Larders.letMouseAppear(x, 1);
        Larders.letMouseAppear(x, 2);
        x.pass(1);
        Checks.due("step 3 hunger of the first", 2, () -> x.mouseHunger(0));
        Checks.due("step 3 hunger of the second", 1, () -> x.mouseHunger(1));
        x.pass(1);
        Checks.due("step 3 the first left", 1, x::gone);
        Checks.due("step 3 the second moved up", 2, () -> x.mouseShelf(0));
        Checks.due("step 3 with its hunger", 2, () -> x.mouseHunger(0));
        x.pass(1);
        Checks.due("step 3 both left", 2, x::gone);
    }

    private static void hungerMovesUpAfterACatch() {
        LarderPatrol x = Larders.withCheese(9, 0);
        x.setBlind(0, true);
        Larders.letMouseAppear(x, 0);
        Larders.letMouseAppear(x, 1);
        x.pass(1);
        Checks.due("step 3 hunger of the second", 1, () -> x.mouseHunger(1));
        x.setBlind(0, false);
        Checks.due("step 2 the first is caught", 1, () -> x.pass(1));
        Checks.due("step 3 its hunger came along", 2, () -> x.mouseHunger(0));
    }

    private static void stepFourSeedAndRate() {
        LarderPatrol x = Larders.withCheese(0, 0, 0, 0, 0);
        for (int low = 0; low < 16; low++) {
            for (int rate = 0; rate <= 16; rate++) {
                LarderPatrol y = Larders.withCheese(1, 1, 1, 1, 1);
                int next = 16 * 33 + low;
                y.setRate(rate);
                y.setSeed(Larders.seedBefore(next));
                y.pass(1);
                Checks.due("step 4 seed", next, y::seed);
                Checks.due("step 4 appears", low < rate ? 1 : 0, y::mouseCount);
                Checks.due("step 4 on shelf", low < rate ? 1 : 0, () -> y.miceOn(3));
            }
        }
        x.pass(1);
        Checks.due("step 4 first seed", 89, x::seed);
        LarderPatrol none = new LarderPatrol();
        none.setRate(16);
        none.pass(60);
        Checks.due("step 4 no shelves", 0, none::mouseCount);
    }

    private static void stepFourAtMostEight() {
        LarderPatrol x = Larders.withCheese(99, 99);
        x.setBlind(0, true);
        x.setRate(16);
        x.pass(8);
        Checks.due("step 4 eight", 8, x::mouseCount);
        x.pass(1);
        Checks.due("step 4 no ninth", 8, x::mouseCount);
        int seed = x.seed();
        x.pass(1);
        Checks.due("step 4 the seed goes on", (seed * 109 + 89) % 1024, x::seed);
    }
}
