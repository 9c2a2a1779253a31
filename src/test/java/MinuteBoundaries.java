/** Boundary cases of promises 24 to 34. */
final class MinuteBoundaries extends Boundaries {
    private MinuteBoundaries() {
    }

    static void run() {
        promise24();
        promise25();
        promise26();
        promise27();
        promises28And29();
        promises30And31();
        promises32And33();
        promise34();
    }

    private static void promise24() {
        promise(24, "the number of minutes, 1 to 60", x -> {
            x.pass(1);
            due("the least", 1, x::minute);
            x.pass(60);
            due("the most", 61, x::minute);
        });
        promise(24, "Returns the number of mice that are caught in these minutes.", x -> {
            due("no shelves", 0, () -> x.pass(60));
            x.addShelf(9);
            x.setRate(16);
            due("the first mouse appears at the end", 0, () -> x.pass(1));
            due("one in one minute", 1, () -> x.pass(1));
            due("one in each of sixty, without the earlier one", 60, () -> x.pass(60));
            x.setRate(0);
            due("the last one", 1, () -> x.pass(1));
            due("none", 0, () -> x.pass(60));
        });
        promise(24, "Throws `IllegalArgumentException` if the number of minutes is out of range", x -> {
            x.addShelf(9);
            unchanged(x, () -> {
                dueThrow("none", ARGUMENT, () -> x.pass(0));
                dueThrow("less than none", ARGUMENT, () -> x.pass(-1));
                dueThrow("one too large", ARGUMENT, () -> x.pass(61));
                dueThrow("least int", ARGUMENT, () -> x.pass(LEAST));
                dueThrow("largest int", ARGUMENT, () -> x.pass(MOST));
            });
        });
    }

    private static void promise25() {
        promise(25, "the number of minutes, 0 to 60", x -> {
            x.addShelf(9);
            x.setRate(16);
            x.pass(1);
            due("none, though a mouse sits beside the cat", 0, () -> x.predictCaught(0));
            due("one", 1, () -> x.predictCaught(1));
            due("the most", 60, () -> x.predictCaught(60));
        });
        promise(25, "Returns the number of mice that would be caught in a number of minutes, if nothing else happened.", x -> {
            due("no shelves", 0, () -> x.predictCaught(60));
            Larders.addShelves(x, 9, 9);
            x.setRate(16);
            x.pass(9);
            unchanged(x, () -> due("a prediction changes nothing", x.predictCaught(30), () -> x.predictCaught(30)));
            int caught = x.caught();
            int predicted = x.predictCaught(60);
            due("what it says comes true", predicted, () -> x.pass(60));
            due("the earlier ones are not in it", caught + predicted, x::caught);
        });
        promise(25, "Throws `IllegalArgumentException` if the number of minutes is out of range", x -> {
            x.addShelf(9);
            unchanged(x, () -> {
                dueThrow("less than none", ARGUMENT, () -> x.predictCaught(-1));
                dueThrow("one too large", ARGUMENT, () -> x.predictCaught(61));
                dueThrow("least int", ARGUMENT, () -> x.predictCaught(LEAST));
                dueThrow("largest int", ARGUMENT, () -> x.predictCaught(MOST));
            });
        });
    }

    private static void promise26() {
        promise(26, "the rate, 0 to 16", x -> {
            x.addShelf(0);
            x.setRate(0);
            x.pass(60);
            due("the least: no mice", 0, () -> x.caught() + x.gone() + x.mouseCount());
            x.setRate(16);
            x.pass(60);
            due("the most: a mouse each minute", 60, () -> x.caught() + x.gone() + x.mouseCount());
        });
        promise(26, "Returns the rate before.", x -> {
            due("the first one", 4, () -> x.setRate(0));
            due("the least", 0, () -> x.setRate(16));
            due("the most", 16, () -> x.setRate(16));
            due("the same", 16, () -> x.setRate(1));
        });
        promise(26, "Throws `IllegalArgumentException` if the rate is out of range", x -> {
            x.addShelf(9);
            unchanged(x, () -> {
                dueThrow("one too small", ARGUMENT, () -> x.setRate(-1));
                dueThrow("one too large", ARGUMENT, () -> x.setRate(17));
                dueThrow("least int", ARGUMENT, () -> x.setRate(LEAST));
                dueThrow("largest int", ARGUMENT, () -> x.setRate(MOST));
            });
            due("the rate is the first one still", 4, () -> x.setRate(4));
        });
    }

    private static void promise27() {
        promise(27, "the seed, 0 to 1023", x -> {
            x.setSeed(1023);
            due("the most", 1023, x::seed);
            x.setSeed(0);
            due("the least", 0, x::seed);
        });
        promise(27, "Returns the seed before.", x -> {
            due("the first one", 0, () -> x.setSeed(1023));
            due("the most", 1023, () -> x.setSeed(0));
            x.pass(1);
            due("after a minute", 89, () -> x.setSeed(89));
        });
        promise(27, "Throws `IllegalArgumentException` if the seed is out of range", x -> {
            x.setSeed(500);
            unchanged(x, () -> {
                dueThrow("one too small", ARGUMENT, () -> x.setSeed(-1));
                dueThrow("one too large", ARGUMENT, () -> x.setSeed(1024));
                dueThrow("least int", ARGUMENT, () -> x.setSeed(LEAST));
                dueThrow("largest int", ARGUMENT, () -> x.setSeed(MOST));
            });
        });
    }

    private static void promises28And29() {
        promise(28, "Returns the seed.", x -> {
            due("at first", 0, x::seed);
            x.setSeed(1023);
            due("the largest", 1023, x::seed);
            x.pass(1);
            due("wrapped around", 1004, x::seed);
            x.undo();
            due("undone", 1023, x::seed);
        });
        promise(29, "Returns the number of minutes that have passed.", x -> {
            due("at first", 0, x::minute);
            x.predictCaught(60);
            due("predicted minutes do not pass", 0, x::minute);
            x.pass(60);
            due("sixty", 60, x::minute);
            dueThrow("a refused one", ARGUMENT, () -> x.pass(61));
            due("sixty still", 60, x::minute);
            x.undo();
            due("undone", 0, x::minute);
        });
    }

    private static void promises30And31() {
        promise(30, "Returns the number of mice.", x -> {
            due("none", 0, x::mouseCount);
            x.addShelf(99);
            x.setBlind(0, true);
            x.setRate(16);
            x.pass(7);
            due("seven", 7, x::mouseCount);
            x.pass(1);
            due("eight", 8, x::mouseCount);
            x.pass(1);
            due("no ninth", 8, x::mouseCount);
            x.setRate(0);
            x.setBlind(0, false);
            x.pass(1);
            due("none after all were caught", 0, x::mouseCount);
        });
        promise(31, "Mice are indexed from 0 in the order in which they appeared.", x -> {
            Larders.addShelves(x, 9, 9, 0, 9);
            Larders.letMouseAppear(x, 2);
            Larders.letMouseAppear(x, 3);
            Larders.letMouseAppear(x, 1);
            due("the first", 2, () -> x.mouseShelf(0));
            due("the second", 3, () -> x.mouseShelf(1));
            due("the last", 1, () -> x.mouseShelf(2));
            x.pass(1);
            due("the first has left", 2, x::mouseCount);
            due("the second is the first", 3, () -> x.mouseShelf(0));
            due("the last is the second", 1, () -> x.mouseShelf(1));
            Larders.letMouseAppear(x, 0);
            due("a new one comes last", 0, () -> x.mouseShelf(2));
        });
        promise(31, "Throws `IndexOutOfBoundsException` if there is no such mouse", x -> {
            dueThrow("no mice and no shelves", INDEX, () -> x.mouseShelf(0));
            Larders.addShelves(x, 9, 9);
            dueThrow("no mice", INDEX, () -> x.mouseShelf(0));
            Larders.letMouseAppear(x, 1);
            dueThrow("too small", INDEX, () -> x.mouseShelf(-1));
            dueThrow("too large, though there is such a shelf", INDEX, () -> x.mouseShelf(1));
            dueThrow("least int", INDEX, () -> x.mouseShelf(LEAST));
            dueThrow("largest int", INDEX, () -> x.mouseShelf(MOST));
            due("the only one", 1, () -> x.mouseShelf(0));
        });
    }

    private static void promises32And33() {
        promise(32, "Returns the grams that a mouse has eaten.", x -> {
            Larders.addShelves(x, 9, 9, 0);
            Larders.letMouseAppear(x, 2);
            Larders.letMouseAppear(x, 1);
            x.pass(2);
            due("the first has left, the second is the first", 1, x::mouseCount);
            due("with what it has eaten", 2, () -> x.mouseEaten(0));
        });
        promise(33, "Returns the hunger of a mouse.", x -> {
            Larders.addShelves(x, 9, 1, 0);
            Larders.letMouseAppear(x, 2);
            Larders.letMouseAppear(x, 1);
            x.pass(2);
            due("the first has left, the second is the first", 1, x::mouseCount);
            due("with its own hunger", 1, () -> x.mouseHunger(0));
        });
        promise(32, "Throws `IndexOutOfBoundsException` if there is no such mouse", x -> {
            dueThrow("no mice and no shelves", INDEX, () -> x.mouseEaten(0));
            Larders.addShelves(x, 9, 2);
            Larders.letMouseAppear(x, 1);
            dueThrow("too small", INDEX, () -> x.mouseEaten(-1));
            dueThrow("too large", INDEX, () -> x.mouseEaten(1));
            dueThrow("least int", INDEX, () -> x.mouseEaten(LEAST));
            dueThrow("largest int", INDEX, () -> x.mouseEaten(MOST));
            due("a new one", 0, () -> x.mouseEaten(0));
            x.pass(2);
            due("up to the last gram", 2, () -> x.mouseEaten(0));
            x.pass(1);
            due("no gram was left", 2, () -> x.mouseEaten(0));
        });
        promise(33, "Returns the hunger, 0 to 2.", x -> {
            Larders.addShelves(x, 9, 0);
            Larders.letMouseAppear(x, 1);
            due("the least", 0, () -> x.mouseHunger(0));
            x.pass(1);
            due("one", 1, () -> x.mouseHunger(0));
            x.pass(1);
            due("the most", 2, () -> x.mouseHunger(0));
            x.pass(1);
            dueThrow("there is no mouse with 3", INDEX, () -> x.mouseHunger(0));
        });
        promise(33, "Throws `IndexOutOfBoundsException` if there is no such mouse", x -> {
            dueThrow("no mice and no shelves", INDEX, () -> x.mouseHunger(0));
            Larders.addShelves(x, 9, 9);
            Larders.letMouseAppear(x, 1);
            dueThrow("too small", INDEX, () -> x.mouseHunger(-1));
            dueThrow("too large", INDEX, () -> x.mouseHunger(1));
            dueThrow("least int", INDEX, () -> x.mouseHunger(LEAST));
            dueThrow("largest int", INDEX, () -> x.mouseHunger(MOST));
        });
    }

    private static void promise34() {
        promise(34, "Returns the number of mice.", x -> {
            Larders.addShelves(x, 99, 0);
            x.setBlind(0, true);
            due("none", 0, () -> x.miceOn(0));
            for (int mouse = 0; mouse < 8; mouse++) {
                Larders.letMouseAppear(x, 0);
            }
            due("all eight", 8, () -> x.miceOn(0));
            due("none on the other shelf", 0, () -> x.miceOn(1));
        });
        promise(34, "Throws `IndexOutOfBoundsException` if there is no such shelf", x -> {
            dueThrow("no shelves at all", INDEX, () -> x.miceOn(0));
            Larders.addShelves(x, 9, 9);
            dueThrow("too small", INDEX, () -> x.miceOn(-1));
            dueThrow("too large", INDEX, () -> x.miceOn(2));
            dueThrow("least int", INDEX, () -> x.miceOn(LEAST));
            dueThrow("largest int", INDEX, () -> x.miceOn(MOST));
            due("the last shelf", 0, () -> x.miceOn(1));
        });
    }
}
