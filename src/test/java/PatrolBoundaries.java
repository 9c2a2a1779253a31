/** Boundary cases of promises 16 to 23. */
final class PatrolBoundaries extends Boundaries {
    private PatrolBoundaries() {
    }

    static void run() {
        promise16();
        promise17();
        promises18And19();
        promises20And21();
        promise22();
        promise23();
    }

    private static void promise16() {
        promise(16, "Returns the number of stops afterwards.", x -> {
            x.addShelf(0);
            for (int stop = 1; stop <= 10; stop++) {
                int stops = stop;
                due("from the first to the tenth", stops, () -> x.addStop(0));
            }
        });
        promise(16, "Throws `IndexOutOfBoundsException` if there is no such shelf", x -> {
            dueThrow("no shelves at all", INDEX, () -> x.addStop(0));
            Larders.addShelves(x, 1, 2);
            unchanged(x, () -> {
                dueThrow("too small", INDEX, () -> x.addStop(-1));
                dueThrow("too large", INDEX, () -> x.addStop(2));
                dueThrow("least int", INDEX, () -> x.addStop(LEAST));
                dueThrow("largest int", INDEX, () -> x.addStop(MOST));
            });
            due("the last shelf is one", 1, () -> x.addStop(1));
        });
        promise(16, "Throws `UnsupportedOperationException` if denied: 1 (10 stops)", x -> {
            Larders.addShelves(x, 1, 2);
            Larders.addStops(x, 0, 0, 0, 0, 0, 0, 0, 0, 0);
            due("the tenth has room", 10, () -> x.addStop(1));
            denied("the eleventh", x, 1, 10, () -> x.addStop(0));
            x.removeStop(0);
            due("room again", 10, () -> x.addStop(0));
            dueThrow("full again", DENIED, () -> x.addStop(1));
        });
    }

    private static void promise17() {
        promise(17, "The numbers of the later stops decrease by 1.", x -> {
            Larders.addShelves(x, new int[10]);
            Larders.addStops(x, 9, 8, 7, 6, 5, 4, 3, 2, 1, 0);
            due("the first of ten", 9, () -> x.removeStop(0));
            dueText("all others move up", "8* 7 6 5 4 3 2 1 0", Larders.patrolLine(x));
            due("the last, which has no later ones", 0, () -> x.removeStop(8));
            dueText("none moves", "8* 7 6 5 4 3 2 1", Larders.patrolLine(x));
            due("one in the middle", 5, () -> x.removeStop(3));
            dueText("the later ones move", "8* 7 6 4 3 2 1", Larders.patrolLine(x));
        });
        promise(17, "Throws `IndexOutOfBoundsException` if there is no such stop", x -> {
            dueThrow("no stops and no shelves", INDEX, () -> x.removeStop(0));
            Larders.addShelves(x, 1, 2, 3);
            dueThrow("no stops", INDEX, () -> x.removeStop(0));
            Larders.addStops(x, 1, 2);
            unchanged(x, () -> {
                dueThrow("too small", INDEX, () -> x.removeStop(-1));
                dueThrow("too large, though there is such a shelf", INDEX, () -> x.removeStop(2));
                dueThrow("least int", INDEX, () -> x.removeStop(LEAST));
                dueThrow("largest int", INDEX, () -> x.removeStop(MOST));
            });
            due("the last stop", 2, () -> x.removeStop(1));
            due("the only stop", 1, () -> x.removeStop(0));
            dueThrow("none is left", INDEX, () -> x.removeStop(0));
        });
    }

    private static void promises18And19() {
        promise(18, "Returns the number of stops.", x -> {
            due("none", 0, x::stopCount);
            x.addShelf(0);
            Larders.addStops(x, new int[10]);
            due("all ten", 10, x::stopCount);
            dueThrow("one too much", DENIED, () -> x.addStop(0));
            due("ten still", 10, x::stopCount);
            x.removeStop(9);
            due("nine", 9, x::stopCount);
        });
        promise(19, "Throws `IndexOutOfBoundsException` if there is no such stop", x -> {
            dueThrow("no stops and no shelves", INDEX, () -> x.shelfOfStop(0));
            Larders.addShelves(x, 1, 2, 3);
            Larders.addStops(x, 2, 1);
            dueThrow("too small", INDEX, () -> x.shelfOfStop(-1));
            dueThrow("too large, though there is such a shelf", INDEX, () -> x.shelfOfStop(2));
            dueThrow("least int", INDEX, () -> x.shelfOfStop(LEAST));
            dueThrow("largest int", INDEX, () -> x.shelfOfStop(MOST));
            due("the first stop", 2, () -> x.shelfOfStop(0));
            due("the last stop", 1, () -> x.shelfOfStop(1));
            x.removeStop(0);
            dueThrow("one stop less", INDEX, () -> x.shelfOfStop(1));
        });
    }

    private static void promises20And21() {
        promise(20, "Throws `NoSuchElementException` if there are no shelves", x -> {
            dueThrow("no shelves", NO_ELEMENT, x::catShelf);
            x.pass(1);
            dueThrow("no shelves a minute later", NO_ELEMENT, x::catShelf);
            x.addShelf(0);
            due("one shelf", 0, x::catShelf);
            x.undo();
            dueThrow("none again", NO_ELEMENT, x::catShelf);
        });
        promise(21, "Throws `NoSuchElementException` if there are no stops", x -> {
            dueThrow("no shelves", NO_ELEMENT, x::goal);
            x.addShelf(0);
            dueThrow("no stops", NO_ELEMENT, x::goal);
            x.addStop(0);
            due("one stop", 0, x::goal);
            x.removeStop(0);
            dueThrow("none again", NO_ELEMENT, x::goal);
        });
    }

    private static void promise22() {
        promise(22, "Returns the shelf on which the cat will be after step 1 of the next minute.", x -> {
            Larders.addShelves(x, 0, 0, 0);
            due("no stops", 0, x::nextShelf);
            x.addStop(2);
            due("no way", 0, x::nextShelf);
            Larders.linkInARow(x);
            due("one passage, not two", 1, x::nextShelf);
            x.pass(2);
            due("on the shelf of the goal", 2, x::nextShelf);
            due("the cat itself was not moved", 2, x::catShelf);
        });
        promise(22, "Throws `NoSuchElementException` if there are no shelves", x -> {
            dueThrow("no shelves", NO_ELEMENT, x::nextShelf);
            x.addShelf(0);
            due("one shelf", 0, x::nextShelf);
            x.undo();
            dueThrow("none again", NO_ELEMENT, x::nextShelf);
        });
    }

    private static void promise23() {
        promise(23, "Returns the sum, 0 without stops.", x -> {
            due("no shelves", 0, x::lapLength);
            Larders.addShelves(x, new int[12]);
            due("no stops", 0, x::lapLength);
            Larders.linkInARow(x);
            Larders.addStops(x, 0, 11, 0, 11, 0, 11, 0, 11, 0, 11);
            due("the longest lap", 110, x::lapLength);
        });
        promise(23, "and from the last stop to stop 0.", x -> {
            Larders.addShelves(x, 0, 0, 0);
            x.addStop(2);
            due("one stop is its own next", 0, x::lapLength);
            Larders.linkInARow(x);
            x.addStop(1);
            due("there and back", 2, x::lapLength);
            x.addStop(0);
            due("back by two", 4, x::lapLength);
        });
        promise(23, "Throws `NoSuchElementException` if no way leads from a stop to the next one", x -> {
            Larders.addShelves(x, 0, 0, 0, 0);
            Larders.linkInARow(x);
            Larders.addStops(x, 0, 1, 2);
            due("all ways", 4, x::lapLength);
            x.unlink(1, 2);
            dueThrow("none to the last stop", NO_ELEMENT, x::lapLength);
            x.link(0, 2);
            due("another way", 4, x::lapLength);
            x.unlink(0, 1);
            dueThrow("none to stop 1", NO_ELEMENT, x::lapLength);
            x.removeStop(1);
            due("stop 1 is gone", 2, x::lapLength);
        });
    }
}
