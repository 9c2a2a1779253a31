/** Boundary cases of the paragraph on one minute. */
final class StepBoundaries extends Boundaries {
    private StepBoundaries() {
    }

    static void run() {
        theOrderOfTheSteps();
        step1Walk();
        step1Goal();
        step2();
        step3Eating();
        step3Hunger();
        step3Moving();
        step4Seed();
        step4Appearing();
        step4Place();
        rangesOfRateAndSeed();
    }

    private static void theOrderOfTheSteps() {
        term("When a minute passes, the following steps are carried out in this order.", x -> {
            Larders.addShelves(x, 5, 5);
            x.link(0, 1);
            Larders.letMouseAppear(x, 1);
            x.addStop(1);
            x.setRate(16);
            x.setSeed(Larders.seedBefore(16 + 1));
            due("the cat catches where it has walked to", 1, () -> x.pass(1));
            due("before the mouse eats", 0, () -> x.eaten() + x.rinds());
            due("a new mouse appears after the catching", 1, () -> x.miceOn(1));
            due("and after the eating", 5, () -> x.cheese(1));
        });
    }

    private static void step1Walk() {
        term("Step 1: if there are stops, the cat walks", x -> {
            Larders.addShelves(x, 0, 0);
            x.link(0, 1);
            x.pass(1);
            due("no stops yet", 0, x::catShelf);
            x.addStop(1);
            x.pass(1);
            due("one stop", 1, x::catShelf);
            x.removeStop(0);
            x.pass(60);
            due("no stops any more", 1, x::catShelf);
        });
        term("if it is not on the shelf of its goal and a way leads there", x -> {
            Larders.addShelves(x, 0, 0, 0);
            Larders.addStops(x, 0, 2);
            x.link(0, 1);
            x.pass(1);
            due("on the shelf of its goal", 0, x::catShelf);
            x.pass(60);
            due("no way leads there", 0, x::catShelf);
            due("and the goal stays", 1, x::goal);
            x.link(1, 2);
            x.pass(1);
            due("a way leads there", 1, x::catShelf);
            x.unlink(1, 2);
            x.pass(1);
            due("the way ended on the way", 1, x::catShelf);
        });
        term("it moves to that neighbour of its shelf that is nearest to the shelf of the goal", x -> {
            Larders.addShelves(x, new int[12]);
            Larders.linkInARow(x);
            x.addStop(11);
            for (int minute = 1; minute <= 11; minute++) {
                int passed = minute;
                x.pass(1);
                due("one passage a minute on the longest way", passed, x::catShelf);
            }
            x.addStop(0);
            x.link(11, 0);
            x.removeStop(0);
            x.pass(1);
            due("the goal itself is the nearest neighbour", 0, x::catShelf);
        });
        term("and of several such neighbours to the one with the smallest index.", x -> {
            Larders.addShelves(x, new int[6]);
            x.link(0, 4);
            x.link(4, 5);
            x.addStop(5);
            x.link(0, 1);
            x.link(1, 2);
            x.link(2, 5);
            due("the smallest index is farther away", 4, x::nextShelf);
            x.link(0, 3);
            x.link(3, 5);
            due("the smaller of two that are equally near", 3, x::nextShelf);
            x.link(1, 5);
            due("the smallest of three", 1, x::nextShelf);
        });
    }

    private static void step1Goal() {
        term("If it is on the shelf of its goal then, the goal becomes the next stop", x -> {
            Larders.addShelves(x, 0, 0, 0);
            Larders.linkInARow(x);
            Larders.addStops(x, 2, 2, 0);
            x.pass(1);
            due("not on its shelf yet", 0, x::goal);
            x.pass(1);
            due("walked there in this minute", 1, x::goal);
            x.pass(1);
            due("only one stop a minute, though it is there already", 2, x::goal);
            due("and it has not moved", 2, x::catShelf);
        });
        term("or stop 0 after the last one.", x -> {
            x.addShelf(0);
            x.addStop(0);
            x.pass(1);
            due("after the only one", 0, x::goal);
            Larders.addStops(x, new int[9]);
            for (int minute = 1; minute <= 9; minute++) {
                int stop = minute;
                x.pass(1);
                due("up to the tenth", stop, x::goal);
            }
            x.pass(1);
            due("after the tenth", 0, x::goal);
        });
    }

    private static void step2() {
        term("Step 2: if the shelf of the cat is not blind, all mice on it are caught", x -> {
            Larders.addShelves(x, 99, 9);
            x.setBlind(0, true);
            for (int mouse = 0; mouse < 7; mouse++) {
                Larders.letMouseAppear(x, 0);
            }
            due("a blind shelf hides them", 0, () -> x.pass(5));
            Larders.letMouseAppear(x, 1);
            x.setBlind(0, false);
            due("all seven of this shelf at once", 7, () -> x.pass(1));
            due("the one of the other shelf stays", 1, x::mouseCount);
            due("none is left to catch", 0, () -> x.pass(1));
        });
        term("the grams that they have eaten are rinds.", x -> {
            Larders.addShelves(x, 9, 0);
            Larders.letMouseAppear(x, 0);
            x.pass(1);
            due("a mouse that ate nothing", 0, x::rinds);
            due("is caught", 1, x::caught);
            x.setBlind(0, true);
            Larders.letMouseAppear(x, 0);
            Larders.letMouseAppear(x, 0);
            x.pass(1);
            x.setBlind(0, false);
            x.pass(1);
            due("two grams and one", 3, x::rinds);
            due("three were caught", 3, x::caught);
            due("nothing more was eaten", 3, x::eaten);
        });
    }

    private static void step3Eating() {
        term("Step 3: the other mice are visited in the order in which they appeared.", x -> {
            Larders.addShelves(x, 0, 2, 0);
            x.link(1, 2);
            Larders.letMouseAppear(x, 1);
            Larders.letMouseAppear(x, 1);
            x.pass(1);
            due("the last gram is for the first", 2, () -> x.mouseEaten(0));
            due("the second comes too late", 0, () -> x.mouseEaten(1));
            due("and is hungry", 1, () -> x.mouseHunger(1));
        });
        term("If there is cheese on the shelf of a visited mouse, it eats 1 gram of it, and its hunger becomes 0.", x -> {
            Larders.addShelves(x, 9, 0);
            Larders.letMouseAppear(x, 1);
            x.pass(2);
            x.fill(1, 1);
            x.pass(1);
            due("just one gram, in time", 0, () -> x.cheese(1));
            due("it ate", 1, () -> x.mouseEaten(0));
            due("from hunger 2 to 0", 0, () -> x.mouseHunger(0));
            x.fill(1, 99);
            x.pass(1);
            due("one gram of 99", 98, () -> x.cheese(1));
            due("from hunger 0 to 0", 0, () -> x.mouseHunger(0));
        });
    }

    private static void step3Hunger() {
        term("Otherwise its hunger increases by 1", x -> {
            Larders.addShelves(x, 9, 1);
            Larders.letMouseAppear(x, 1);
            x.pass(1);
            due("one gram was there", 0, () -> x.mouseHunger(0));
            x.pass(1);
            due("none is there", 1, () -> x.mouseHunger(0));
            due("cheese is never below 0", 0, () -> x.cheese(1));
        });
        term("if it is 3 then, the mouse leaves", x -> {
            Larders.addShelves(x, 9, 0, 0, 0);
            x.link(1, 2);
            Larders.letMouseAppear(x, 1);
            x.pass(2);
            due("it is 2", 2, () -> x.mouseHunger(0));
            due("none has left", 0, x::gone);
            x.fill(2, 9);
            x.pass(1);
            due("it is 3, whatever its neighbour has", 1, x::gone);
            due("it does not move there", 0, () -> x.miceOn(2));
            due("it is not caught", 0, x::caught);
        });
    }

    private static void step3Moving() {
        term("it moves to the neighbour with the most cheese, and of several to the one with the smallest index", x -> {
            Larders.addShelves(x, 0, 0, 0, 8, 8, 99);
            x.link(1, 2);
            x.link(1, 4);
            x.link(1, 3);
            Larders.letMouseAppear(x, 1);
            x.pass(1);
            due("the smaller of two with the most", 3, () -> x.mouseShelf(0));
            due("it does not eat in the same minute", 8, () -> x.cheese(3));
            Larders.letMouseAppear(x, 1);
            x.pass(1);
            due("the first mouse has eaten of shelf 3", 4, () -> x.mouseShelf(1));
            x.unlink(1, 3);
            x.unlink(1, 4);
            Larders.letMouseAppear(x, 1);
            x.pass(1);
            due("a neighbour without cheese too", 2, () -> x.mouseShelf(2));
        });
        term("of several to the one with the smallest index", x -> {
            Larders.addShelves(x, new int[12]);
            for (int other = 11; other >= 0; other--) {
                if (other != 5) {
                    x.link(5, other);
                }
            }
            Larders.letMouseAppear(x, 5);
            x.pass(1);
            due("the smallest of all, none of which has cheese", 0, () -> x.mouseShelf(0));
            x.undo();
            x.fill(11, 1);
            x.pass(1);
            due("the largest index, for one gram", 11, () -> x.mouseShelf(0));
        });
        term("if there are no neighbours, it stays.", x -> {
            Larders.addShelves(x, 9, 0, 9);
            Larders.letMouseAppear(x, 1);
            x.pass(1);
            due("alone", 1, () -> x.mouseShelf(0));
            x.link(1, 2);
            x.pass(1);
            due("one neighbour", 2, () -> x.mouseShelf(0));
        });
    }

    private static void step4Seed() {
        term("Step 4: the seed becomes the seed times 109 plus 89, modulo 1024.", x -> {
            x.pass(1);
            due("of 0", 89, x::seed);
            x.setSeed(8);
            x.pass(1);
            due("the largest below the modulus that stays whole", 961, x::seed);
            x.setSeed(9);
            x.pass(1);
            due("the first that wraps around", 46, x::seed);
            x.setSeed(1023);
            x.pass(1);
            due("the largest seed", 1004, x::seed);
            x.setSeed(Larders.seedBefore(0));
            x.pass(1);
            due("back to 0", 0, x::seed);
            x.setSeed(Larders.seedBefore(1023));
            x.pass(1);
            due("up to the largest", 1023, x::seed);
        });
        for (int from = 0; from < 1024; from += 128) {
            int least = from;
            term("the seed becomes the seed times 109 plus 89, modulo 1024.", x -> {
                for (int seed = least; seed < least + 128; seed++) {
                    int next = (seed * 109 + 89) % 1024;
                    x.setSeed(seed);
                    x.pass(1);
                    due("of " + seed, next, x::seed);
                }
            });
        }
    }

    private static int miceAfter(LarderPatrol x, int rate, int next) {
        x.setRate(rate);
        x.setSeed(Larders.seedBefore(next));
        int before = x.mouseCount();
        x.pass(1);
        int more = x.mouseCount() - before;
        x.undo();
        return more;
    }

    private static void step4Appearing() {
        term("If the seed modulo 16 is then less than the rate", x -> {
            Larders.addShelves(x, 9, 9);
            due("0 at rate 0", 0, () -> miceAfter(x, 0, 16));
            due("0 at rate 1", 1, () -> miceAfter(x, 1, 16));
            due("1 at rate 1", 0, () -> miceAfter(x, 1, 17));
            due("15 at rate 15", 0, () -> miceAfter(x, 15, 31));
            due("14 at rate 15", 1, () -> miceAfter(x, 15, 30));
            due("15 at rate 16", 1, () -> miceAfter(x, 16, 31));
            due("15 of the largest seed at rate 16", 1, () -> miceAfter(x, 16, 1023));
            due("15 of the largest seed at rate 15", 0, () -> miceAfter(x, 15, 1023));
        });
        term("there are shelves", x -> {
            x.setRate(16);
            x.pass(60);
            due("no shelves", 0, x::mouseCount);
            x.addShelf(9);
            x.pass(1);
            due("one shelf", 1, x::mouseCount);
        });
        term("and there are fewer than 8 mice", x -> {
            Larders.addShelves(x, 99, 99);
            x.setBlind(0, true);
            for (int mouse = 0; mouse < 7; mouse++) {
                Larders.letMouseAppear(x, 1);
            }
            due("seven, and another one", 1, () -> miceAfter(x, 16, 0));
            Larders.letMouseAppear(x, 0);
            due("eight, and no other one", 0, () -> miceAfter(x, 16, 0));
            x.setBlind(0, false);
            due("one of eight is caught, and another one comes in the same minute", 0, () -> miceAfter(x, 16, 0));
            x.setRate(16);
            x.setSeed(Larders.seedBefore(0));
            due("it was caught", 1, () -> x.pass(1));
            due("eight again", 8, x::mouseCount);
            due("the new one is the last", 0, () -> x.mouseShelf(7));
            int seed = x.seed();
            x.pass(1);
            due("the seed goes on all the same", (seed * 109 + 89) % 1024, x::seed);
        });
    }

    private static int placeAfter(LarderPatrol x, int next) {
        x.setRate(16);
        x.setSeed(Larders.seedBefore(next));
        x.pass(1);
        int place = x.mouseShelf(0);
        x.undo();
        return place;
    }

    private static void step4Place() {
        term("a mouse appears on the shelf whose index is the seed divided by 16, rounded down,"
            + " modulo the number of shelves", x -> {
            x.addShelf(0);
            due("the only shelf", 0, () -> placeAfter(x, 1023));
            Larders.addShelves(x, 0, 0, 0, 0);
            due("the least seed", 0, () -> placeAfter(x, 0));
            due("15 is rounded down to 0", 0, () -> placeAfter(x, 15));
            due("16 is the first of 1", 1, () -> placeAfter(x, 16));
            due("79 is the last of 4", 4, () -> placeAfter(x, 79));
            due("80 wraps around to 0", 0, () -> placeAfter(x, 80));
            due("63 modulo 5", 3, () -> placeAfter(x, 1023));
        });
        term("a mouse appears on the shelf whose index is the seed divided by 16", x -> {
            Larders.addShelves(x, new int[12]);
            due("the last of twelve", 11, () -> placeAfter(x, 11 * 16 + 15));
            due("behind the last of twelve", 0, () -> placeAfter(x, 12 * 16));
            due("63 modulo 12", 3, () -> placeAfter(x, 1023));
        });
        term("it has eaten 0 grams, and its hunger is 0.", x -> {
            Larders.addShelves(x, 9, 1);
            Larders.letMouseAppear(x, 1);
            x.pass(3);
            due("hungry and fed before", 1, () -> x.mouseEaten(0));
            due("its hunger", 2, () -> x.mouseHunger(0));
            x.pass(1);
            x.fill(1, 9);
            Larders.letMouseAppear(x, 1);
            due("in the place of one that left: eaten", 0, () -> x.mouseEaten(0));
            due("in the place of one that left: hunger", 0, () -> x.mouseHunger(0));
            due("it does not eat in the minute in which it appears", 9, () -> x.cheese(1));
        });
    }

    private static void rangesOfRateAndSeed() {
        term("The rate is from 0 to 16, initially 4", x -> {
            Larders.addShelves(x, 9, 9);
            x.setSeed(Larders.seedBefore(16 + 4));
            x.pass(1);
            due("4 is not less than the initial rate", 0, x::mouseCount);
            x.setSeed(Larders.seedBefore(16 + 3));
            x.pass(1);
            due("3 is less than the initial rate", 1, x::mouseCount);
            due("initially", 4, () -> x.setRate(16));
            dueThrow("above", ARGUMENT, () -> x.setRate(17));
            due("the most", 16, () -> x.setRate(0));
            dueThrow("below", ARGUMENT, () -> x.setRate(-1));
            due("the least", 0, () -> x.setRate(4));
        });
        term("the seed is from 0 to 1023, initially 0.", x -> {
            due("initially", 0, x::seed);
            due("the least", 0, () -> x.setSeed(1023));
            dueThrow("above", ARGUMENT, () -> x.setSeed(1024));
            due("the most", 1023, () -> x.setSeed(0));
            dueThrow("below", ARGUMENT, () -> x.setSeed(-1));
            due("the least again", 0, x::seed);
        });
    }
}
