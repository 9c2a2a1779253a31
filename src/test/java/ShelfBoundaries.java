/** Boundary cases of promises 1 to 15. */
final class ShelfBoundaries extends Boundaries {
    private ShelfBoundaries() {
    }

    static void run() {
        promise1();
        promise2();
        promise3();
        promise4();
        promise5();
        promise6();
        promises7And8();
        promises9To11();
        promise12();
        promise13();
        promise14();
        promise15();
    }

    private static void promise1() {
        promise(1, "Creates a larder without shelves, stops and mice, at minute 0.", x -> {
            due("shelves", 0, x::shelfCount);
            due("passages", 0, x::passageCount);
            due("stops", 0, x::stopCount);
            due("mice", 0, x::mouseCount);
            due("minute", 0, x::minute);
            due("changes", 0, x::undoCount);
            due("no patrol is written", 0, x::writePatrol);
            dueThrow("no shelf 0", INDEX, () -> x.cheese(0));
            dueThrow("no stop 0", INDEX, () -> x.shelfOfStop(0));
            dueThrow("no mouse 0", INDEX, () -> x.mouseShelf(0));
            x.addShelf(3);
            x.pass(1);
            LarderPatrol other = new LarderPatrol();
            due("a second one has no shelves of the first", 0, other::shelfCount);
            due("and no minutes of it", 0, other::minute);
        });
    }

    private static void promise2() {
        promise(2, "the cheese in grams, 0 to 99", x -> {
            due("the least", 0, () -> x.addShelf(0));
            due("the most", 1, () -> x.addShelf(99));
            due("the least is there", 0, () -> x.cheese(0));
            due("the most is there", 99, () -> x.cheese(1));
        });
        promise(2, "Returns the index of the shelf.", x -> {
            for (int index = 0; index < 12; index++) {
                int next = index;
                due("from the first to the twelfth", next, () -> x.addShelf(5));
            }
        });
        promise(2, "Throws `IllegalArgumentException` if the cheese is out of range", x -> {
            x.addShelf(7);
            unchanged(x, () -> {
                dueThrow("one too small", ARGUMENT, () -> x.addShelf(-1));
                dueThrow("one too large", ARGUMENT, () -> x.addShelf(100));
                dueThrow("the least int", ARGUMENT, () -> x.addShelf(LEAST));
                dueThrow("the largest int", ARGUMENT, () -> x.addShelf(MOST));
            });
        });
        promise(2, "Throws `UnsupportedOperationException` if denied: 1 (12 shelves)", x -> {
            for (int shelf = 0; shelf < 11; shelf++) {
                x.addShelf(shelf);
            }
            due("the twelfth has room", 11, () -> x.addShelf(11));
            denied("the thirteenth", x, 1, 12, () -> x.addShelf(12));
            x.undo();
            due("room again", 11, () -> x.addShelf(99));
            dueThrow("full again", DENIED, () -> x.addShelf(0));
        });
    }

    private static void promise3() {
        promise(3, "Returns the number of passages afterwards.", x -> {
            Larders.addShelves(x, new int[12]);
            for (int other = 1; other <= 11; other++) {
                int passages = other;
                due("one after the other", passages, () -> x.link(0, passages));
            }
            x.unlink(0, 5);
            due("after one was cut", 11, () -> x.link(5, 0));
        });
        promise(3, "Throws `IndexOutOfBoundsException` if there is no such shelf, for either", x -> {
            dueThrow("no shelves at all", INDEX, () -> x.link(0, 0));
            Larders.addShelves(x, 1, 2);
            unchanged(x, () -> {
                dueThrow("the first too small", INDEX, () -> x.link(-1, 0));
                dueThrow("the first too large", INDEX, () -> x.link(2, 0));
                dueThrow("the second too small", INDEX, () -> x.link(0, -1));
                dueThrow("the second too large", INDEX, () -> x.link(0, 2));
                dueThrow("both, though the same", INDEX, () -> x.link(2, 2));
                dueThrow("least and largest int", INDEX, () -> x.link(LEAST, MOST));
                dueThrow("0 behind a wrap of 32", INDEX, () -> x.link(32, 1));
            });
            due("the last shelf is one", 1, () -> x.link(1, 0));
        });
        promise(3, "Throws `UnsupportedOperationException` if denied: 2, 3, 1 (20 passages)", x -> {
            Larders.addPassages(x, 19);
            due("the twentieth has room", 20, () -> x.link(11, 10));
            denied("the 21st", x, 1, 20, () -> x.link(9, 10));
            dueThrow("the same shelf in a full larder", DENIED, () -> x.link(0, 0));
            dueText("denial 2 comes first", "2 0 throws.NoSuchElementException", Larders.denialOf(x));
            dueThrow("connected shelves in a full larder", DENIED, () -> x.link(10, 11));
            dueText("denial 3 comes before 1", "3 20 throws.NoSuchElementException", Larders.denialOf(x));
            x.unlink(0, 1);
            due("room again", 20, () -> x.link(9, 10));
        });
    }

    private static void promise4() {
        promise(4, "Returns the number of passages afterwards.", x -> {
            Larders.addShelves(x, 0, 0, 0);
            x.link(0, 1);
            x.link(1, 2);
            due("one is left", 1, () -> x.unlink(1, 0));
            due("none is left", 0, () -> x.unlink(1, 2));
            due("none is counted", 0, x::passageCount);
        });
        promise(4, "Throws `IndexOutOfBoundsException` if there is no such shelf, for either", x -> {
            dueThrow("no shelves at all", INDEX, () -> x.unlink(0, 0));
            Larders.addShelves(x, 1, 2);
            x.link(0, 1);
            unchanged(x, () -> {
                dueThrow("the first too small", INDEX, () -> x.unlink(-1, 0));
                dueThrow("the first too large", INDEX, () -> x.unlink(2, 0));
                dueThrow("the second too small", INDEX, () -> x.unlink(0, -1));
                dueThrow("the second too large", INDEX, () -> x.unlink(0, 2));
                dueThrow("0 behind a wrap of 32", INDEX, () -> x.unlink(32, 1));
                dueThrow("largest and least int", INDEX, () -> x.unlink(MOST, LEAST));
            });
        });
        promise(4, "Throws `UnsupportedOperationException` if denied: 4", x -> {
            Larders.addShelves(x, 1, 2, 3);
            denied("no passages at all", x, 4, 0, () -> x.unlink(0, 1));
            x.link(0, 1);
            x.link(1, 2);
            denied("a way but no passage", x, 4, 2, () -> x.unlink(0, 2));
            denied("a shelf and itself", x, 4, 2, () -> x.unlink(1, 1));
            x.unlink(0, 1);
            denied("cut already", x, 4, 1, () -> x.unlink(1, 0));
        });
    }

    private static void promise5() {
        promise(5, "Returns the number of blind shelves afterwards.", x -> {
            Larders.addShelves(x, new int[12]);
            for (int shelf = 0; shelf < 12; shelf++) {
                int next = shelf;
                due("one more", next + 1, () -> x.setBlind(next, true));
            }
            for (int shelf = 0; shelf < 12; shelf++) {
                int next = shelf;
                due("one less, down to none", 11 - next, () -> x.setBlind(next, false));
            }
        });
        promise(5, "Throws `IndexOutOfBoundsException` if there is no such shelf", x -> {
            dueThrow("no shelves at all", INDEX, () -> x.setBlind(0, false));
            Larders.addShelves(x, 1, 2);
            unchanged(x, () -> {
                dueThrow("too small", INDEX, () -> x.setBlind(-1, true));
                dueThrow("too large", INDEX, () -> x.setBlind(2, true));
                dueThrow("too large, not blind", INDEX, () -> x.setBlind(2, false));
                dueThrow("0 behind a wrap of 32", INDEX, () -> x.setBlind(32, true));
                dueThrow("least int", INDEX, () -> x.setBlind(LEAST, true));
                dueThrow("largest int", INDEX, () -> x.setBlind(MOST, true));
            });
            due("the last shelf is one", 1, () -> x.setBlind(1, true));
        });
        promise(5, "Throws `UnsupportedOperationException` if denied: 5", x -> {
            Larders.addShelves(x, 1, 2);
            denied("not blind as before", x, 5, 0, () -> x.setBlind(1, false));
            x.setBlind(1, true);
            denied("blind as before", x, 5, 1, () -> x.setBlind(1, true));
            x.setBlind(1, false);
            denied("not blind any more", x, 5, 0, () -> x.setBlind(1, false));
        });
    }

    private static void promise6() {
        promise(6, "the grams that are put there, 1 to 99", x -> {
            Larders.addShelves(x, 0, 0);
            due("the least", 1, () -> x.fill(0, 1));
            due("the most", 99, () -> x.fill(1, 99));
        });
        promise(6, "Returns the cheese on the shelf afterwards.", x -> {
            Larders.addShelves(x, 0, 40);
            due("on an empty shelf", 1, () -> x.fill(0, 1));
            due("up to a full shelf", 99, () -> x.fill(1, 59));
            due("it is there", 99, () -> x.cheese(1));
        });
        promise(6, "Throws `IndexOutOfBoundsException` if there is no such shelf", x -> {
            dueThrow("no shelves at all", INDEX, () -> x.fill(0, 1));
            Larders.addShelves(x, 1, 2);
            unchanged(x, () -> {
                dueThrow("too small", INDEX, () -> x.fill(-1, 1));
                dueThrow("too large", INDEX, () -> x.fill(2, 1));
                dueThrow("least int", INDEX, () -> x.fill(LEAST, 1));
                dueThrow("largest int", INDEX, () -> x.fill(MOST, 1));
            });
        });
        promise(6, "Throws `IllegalArgumentException` if the grams are out of range", x -> {
            Larders.addShelves(x, 0, 50);
            unchanged(x, () -> {
                dueThrow("none", ARGUMENT, () -> x.fill(0, 0));
                dueThrow("less than none", ARGUMENT, () -> x.fill(1, -1));
                dueThrow("one too large", ARGUMENT, () -> x.fill(0, 100));
                dueThrow("least int", ARGUMENT, () -> x.fill(1, LEAST));
                dueThrow("largest int, whose sum wraps around", ARGUMENT, () -> x.fill(1, MOST));
            });
        });
        promise(6, "Throws `UnsupportedOperationException` if denied: 1 (99 grams)", x -> {
            Larders.addShelves(x, 50, 1);
            denied("one gram too much", x, 1, 99, () -> x.fill(0, 50));
            due("just full", 99, () -> x.fill(0, 49));
            denied("one on a full shelf", x, 1, 99, () -> x.fill(0, 1));
            denied("99 on one gram", x, 1, 99, () -> x.fill(1, 99));
            due("98 on one gram", 99, () -> x.fill(1, 98));
            Larders.letMouseAppear(x, 1);
            x.pass(1);
            due("room after a mouse ate", 99, () -> x.fill(1, 1));
        });
    }

    private static void promises7And8() {
        promise(7, "Returns the number of shelves.", x -> {
            due("none", 0, x::shelfCount);
            Larders.addShelves(x, new int[12]);
            due("all twelve", 12, x::shelfCount);
            dueThrow("one too much", DENIED, () -> x.addShelf(0));
            due("twelve still", 12, x::shelfCount);
            x.undo();
            due("eleven", 11, x::shelfCount);
        });
        promise(8, "Returns the number of passages.", x -> {
            due("none", 0, x::passageCount);
            Larders.addPassages(x, 20);
            due("all twenty", 20, x::passageCount);
            dueThrow("one too much", DENIED, () -> x.link(10, 11));
            dueThrow("one that is there", DENIED, () -> x.link(0, 1));
            due("twenty still", 20, x::passageCount);
        });
    }

    private static void promises9To11() {
        promise(9, "Throws `IndexOutOfBoundsException` if there is no such shelf", x -> {
            dueThrow("no shelves at all", INDEX, () -> x.cheese(0));
            Larders.addShelves(x, 99, 0);
            dueThrow("too small", INDEX, () -> x.cheese(-1));
            dueThrow("too large", INDEX, () -> x.cheese(2));
            dueThrow("least int", INDEX, () -> x.cheese(LEAST));
            dueThrow("largest int", INDEX, () -> x.cheese(MOST));
            due("the first shelf", 99, () -> x.cheese(0));
            due("the last shelf", 0, () -> x.cheese(1));
            x.undo();
            dueThrow("the last one was undone", INDEX, () -> x.cheese(1));
        });
        promise(10, "Throws `IndexOutOfBoundsException` if there is no such shelf", x -> {
            dueThrow("no shelves at all", INDEX, () -> x.isBlind(0) ? 1 : 0);
            Larders.addShelves(x, 0, 0);
            x.setBlind(1, true);
            dueThrow("too small", INDEX, () -> x.isBlind(-1) ? 1 : 0);
            dueThrow("too large", INDEX, () -> x.isBlind(2) ? 1 : 0);
            dueThrow("0 behind a wrap of 32", INDEX, () -> x.isBlind(32) ? 1 : 0);
            dueThrow("least int", INDEX, () -> x.isBlind(LEAST) ? 1 : 0);
            dueThrow("largest int", INDEX, () -> x.isBlind(MOST) ? 1 : 0);
            dueTrue("the first and the last shelf", !x.isBlind(0) && x.isBlind(1));
        });
        promise(11, "Throws `IndexOutOfBoundsException` if there is no such shelf", x -> {
            dueThrow("no shelves at all", INDEX, () -> x.neighbourCount(0));
            Larders.addShelves(x, 0, 0);
            dueThrow("too small", INDEX, () -> x.neighbourCount(-1));
            dueThrow("too large", INDEX, () -> x.neighbourCount(2));
            dueThrow("least int", INDEX, () -> x.neighbourCount(LEAST));
            dueThrow("largest int", INDEX, () -> x.neighbourCount(MOST));
            due("the last shelf", 0, () -> x.neighbourCount(1));
        });
        promise(11, "Returns the number of neighbours.", x -> {
            Larders.addPassages(x, 11);
            due("all others", 11, () -> x.neighbourCount(0));
            due("one", 1, () -> x.neighbourCount(11));
            x.unlink(11, 0);
            due("none", 0, () -> x.neighbourCount(11));
            due("all but one", 10, () -> x.neighbourCount(0));
        });
    }

    private static void promise12() {
        promise(12, "the index of the other shelf, possibly the same", x -> {
            Larders.addShelves(x, 0, 0);
            due("the same, alone", 0, () -> x.distance(1, 1));
            x.link(0, 1);
            due("the same, with a neighbour", 0, () -> x.distance(0, 0));
            due("the other", 1, () -> x.distance(0, 1));
        });
        promise(12, "Throws `IndexOutOfBoundsException` if there is no such shelf, for either", x -> {
            dueThrow("no shelves at all", INDEX, () -> x.distance(0, 0));
            Larders.addShelves(x, 0, 0);
            dueThrow("the first too small", INDEX, () -> x.distance(-1, 0));
            dueThrow("the first too large", INDEX, () -> x.distance(2, 0));
            dueThrow("the second too small", INDEX, () -> x.distance(0, -1));
            dueThrow("the second too large", INDEX, () -> x.distance(0, 2));
            dueThrow("both, though the same", INDEX, () -> x.distance(2, 2));
            dueThrow("least and largest int", INDEX, () -> x.distance(LEAST, MOST));
        });
        promise(12, "Throws `NoSuchElementException` if no way leads from one to the other", x -> {
            Larders.addShelves(x, new int[12]);
            dueThrow("two lone shelves", NO_ELEMENT, () -> x.distance(0, 11));
            Larders.linkInARow(x);
            due("the longest way", 11, () -> x.distance(0, 11));
            due("the longest way back", 11, () -> x.distance(11, 0));
            x.unlink(5, 6);
            dueThrow("a way that ends", NO_ELEMENT, () -> x.distance(0, 11));
            due("as far as it leads", 5, () -> x.distance(0, 5));
        });
    }

    private static void promise13() {
        promise(13, "the index of the other shelf, possibly the same", x -> {
            Larders.addShelves(x, 0, 0);
            due("the same, alone", 0, () -> x.distanceByTable(1, 1));
            x.link(0, 1);
            due("the same, with a neighbour", 0, () -> x.distanceByTable(0, 0));
            due("the other", 1, () -> x.distanceByTable(1, 0));
        });
        promise(13, "Throws `IndexOutOfBoundsException` if there is no such shelf, for either", x -> {
            dueThrow("no shelves at all", INDEX, () -> x.distanceByTable(0, 0));
            Larders.addShelves(x, 0, 0);
            dueThrow("the first too small", INDEX, () -> x.distanceByTable(-1, 0));
            dueThrow("the first too large", INDEX, () -> x.distanceByTable(2, 0));
            dueThrow("the second too small", INDEX, () -> x.distanceByTable(0, -1));
            dueThrow("the second too large", INDEX, () -> x.distanceByTable(0, 2));
            dueThrow("both, though the same", INDEX, () -> x.distanceByTable(2, 2));
            dueThrow("largest and least int", INDEX, () -> x.distanceByTable(MOST, LEAST));
        });
        promise(13, "Throws `NoSuchElementException` if no way leads from one to the other", x -> {
            Larders.addShelves(x, new int[12]);
            dueThrow("two lone shelves", NO_ELEMENT, () -> x.distanceByTable(0, 11));
            Larders.linkInARow(x);
            due("the longest way", 11, () -> x.distanceByTable(0, 11));
            due("the longest way back", 11, () -> x.distanceByTable(11, 0));
            x.unlink(5, 6);
            dueThrow("a way that ends, after one that led on", NO_ELEMENT, () -> x.distanceByTable(0, 11));
            due("as far as it leads", 5, () -> x.distanceByTable(11, 6));
        });
        promise(13, "found by a table of all distances that is improved by one shelf after the other.", x -> {
            Larders.addPassages(x, 11);
            due("by the first shelf", 2, () -> x.distanceByTable(1, 11));
            x.undo();
            dueThrow("the last shelf alone", NO_ELEMENT, () -> x.distanceByTable(1, 11));
            x.link(11, 1);
            x.link(11, 2);
            x.unlink(0, 1);
            x.unlink(0, 2);
            due("by the last shelf", 2, () -> x.distanceByTable(1, 2));
            dueThrow("two groups", NO_ELEMENT, () -> x.distanceByTable(1, 3));
        });
    }

    private static void promise14() {
        promise(14, "two shelves are in the same group if a way leads from one to the other.", x -> {
            due("no shelves", 0, x::groupCount);
            x.addShelf(0);
            due("one shelf", 1, x::groupCount);
            Larders.addShelves(x, new int[11]);
            due("twelve lone shelves", 12, x::groupCount);
            Larders.linkInARow(x);
            due("the longest way joins all", 1, x::groupCount);
            x.link(11, 0);
            due("a ring", 1, x::groupCount);
            x.unlink(3, 4);
            due("a ring cut once", 1, x::groupCount);
            x.unlink(7, 8);
            due("a ring cut twice", 2, x::groupCount);
        });
    }

    private static void promise15() {
        promise(15, "for equal cheese, the shelf with the smaller index comes first.", x -> {
            Larders.addShelves(x, 7, 7, 7, 7, 7, 7, 7, 7, 7, 7, 7, 7);
            for (int rank = 0; rank < 12; rank++) {
                int asked = rank;
                due("all equal", asked, () -> x.shelfByCheese(asked));
            }
            x.fill(11, 1);
            due("one gram more comes first", 11, () -> x.shelfByCheese(0));
            due("then the others", 0, () -> x.shelfByCheese(1));
            due("the last one", 10, () -> x.shelfByCheese(11));
        });
        promise(15, "the rank, from 0", x -> {
            Larders.addShelves(x, 0, 99, 50);
            due("the most", 1, () -> x.shelfByCheese(0));
            due("the second", 2, () -> x.shelfByCheese(1));
            due("the least", 0, () -> x.shelfByCheese(2));
        });
        promise(15, "Throws `NoSuchElementException` if there is no such rank", x -> {
            dueThrow("no shelves at all", NO_ELEMENT, () -> x.shelfByCheese(0));
            Larders.addShelves(x, 5, 5);
            dueThrow("too small", NO_ELEMENT, () -> x.shelfByCheese(-1));
            dueThrow("too large", NO_ELEMENT, () -> x.shelfByCheese(2));
            dueThrow("least int", NO_ELEMENT, () -> x.shelfByCheese(LEAST));
            dueThrow("largest int", NO_ELEMENT, () -> x.shelfByCheese(MOST));
            due("the last rank", 1, () -> x.shelfByCheese(1));
        });
    }
}
