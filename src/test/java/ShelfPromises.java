/** Promises 1 to 15. */
final class ShelfPromises {
    private static final Class<IndexOutOfBoundsException> INDEX = IndexOutOfBoundsException.class;
    private static final Class<IllegalArgumentException> ARGUMENT = IllegalArgumentException.class;
    private static final Class<UnsupportedOperationException> DENIED = UnsupportedOperationException.class;
    private static final Class<java.util.NoSuchElementException> NO_ELEMENT = java.util.NoSuchElementException.class;
    private static final String NO_CAUSE = " throws.NoSuchElementException";

    private ShelfPromises() {
    }

    static void run() {
        promise1NewObject();
        promise2AddShelf();
        promise3Link();
        promise3LinkLimit();
        promise4Unlink();
        promise5SetBlind();
        promise6Fill();
        promises7To11Reading();
        promises12And13Distances();
        promise13TableOnRings();
        promise14Groups();
        promise15Ranks();
    }

    private static void promise1NewObject() {
        LarderPatrol x = new LarderPatrol();
        Checks.due("1 shelves", 0, x::shelfCount);
        Checks.due("1 passages", 0, x::passageCount);
        Checks.due("1 stops", 0, x::stopCount);
        Checks.due("1 mice", 0, x::mouseCount);
        Checks.due("1 minute", 0, x::minute);
        Checks.due("1 seed", 0, x::seed);
        Checks.due("1 accounts", 0, () -> x.eaten() + x.caught() + x.gone() + x.rinds() + x.totalCheese());
        Checks.due("1 undo", 0, x::undoCount);
        Checks.due("1 rate", 4, () -> x.setRate(4));
    }

    private static void promise2AddShelf() {
        LarderPatrol x = new LarderPatrol();
        Checks.dueThrow("2 below", ARGUMENT, () -> x.addShelf(-1));
        Checks.dueThrow("2 above", ARGUMENT, () -> x.addShelf(100));
        Checks.dueThrow("2 least int", ARGUMENT, () -> x.addShelf(Integer.MIN_VALUE));
        Checks.due("2 nothing added", 0, x::shelfCount);
        Checks.due("2 first", 0, () -> x.addShelf(0));
        Checks.due("2 second", 1, () -> x.addShelf(99));
        Checks.due("2 cheese", 99, () -> x.cheese(1));
        for (int index = 2; index < 12; index++) {
            int due = index;
            Checks.due("2 index", due, () -> x.addShelf(due));
            Checks.dueTrue("2 not blind", !x.isBlind(due));
        }
        Checks.dueThrow("2 range before denial", ARGUMENT, () -> x.addShelf(100));
        Checks.dueThrow("2 no denial yet", NO_ELEMENT, x::denial);
        Checks.dueThrow("2 full", DENIED, () -> x.addShelf(0));
        Checks.dueText("2 denial", "1 12" + NO_CAUSE, Larders.denialOf(x));
        Checks.due("2 still 12", 12, x::shelfCount);
    }

    private static void promise3Link() {
        LarderPatrol x = Larders.withCheese(0, 0, 0);
        Checks.dueThrow("3 first below", INDEX, () -> x.link(-1, 0));
        Checks.dueThrow("3 first above", INDEX, () -> x.link(3, 0));
        Checks.dueThrow("3 second below", INDEX, () -> x.link(0, -1));
        Checks.dueThrow("3 second above", INDEX, () -> x.link(0, 3));
        Checks.dueThrow("3 both the same and none", INDEX, () -> x.link(3, 3));
        Checks.dueThrow("3 wide", INDEX, () -> x.link(32, 0));
        Checks.dueThrow("3 same", DENIED, () -> x.link(2, 2));
        Checks.dueText("3 denial 2", "2 2" + NO_CAUSE, Larders.denialOf(x));
        Checks.due("3 one", 1, () -> x.link(0, 1));
        Checks.due("3 two", 2, () -> x.link(2, 1));
        Checks.dueThrow("3 connected", DENIED, () -> x.link(0, 1));
        Checks.dueText("3 denial 3", "3 2" + NO_CAUSE, Larders.denialOf(x));
        Checks.dueThrow("3 connected backwards", DENIED, () -> x.link(1, 2));
        Checks.due("3 count", 2, x::passageCount);
    }

    private static void promise3LinkLimit() {
        LarderPatrol x = Larders.withPassages(20);
        Checks.due("3 twenty", 20, x::passageCount);
        Checks.dueThrow("3 limit", DENIED, () -> x.link(10, 11));
        Checks.dueText("3 denial 1", "1 20" + NO_CAUSE, Larders.denialOf(x));
        Checks.dueThrow("3 same before limit", DENIED, () -> x.link(11, 11));
        Checks.dueText("3 denial 2 at the limit", "2 11" + NO_CAUSE, Larders.denialOf(x));
        Checks.dueThrow("3 connected before limit", DENIED, () -> x.link(1, 0));
        Checks.dueText("3 denial 3 at the limit", "3 20" + NO_CAUSE, Larders.denialOf(x));
        Checks.due("3 room again", 19, () -> x.unlink(0, 1));
        Checks.due("3 the last one", 20, () -> x.link(10, 11));
    }

    private static void promise4Unlink() {
        LarderPatrol x = Larders.inARow(0, 0, 0);
        Checks.dueThrow("4 first", INDEX, () -> x.unlink(3, 0));
        Checks.dueThrow("4 first below", INDEX, () -> x.unlink(-1, 0));
        Checks.dueThrow("4 second", INDEX, () -> x.unlink(0, 3));
        Checks.dueThrow("4 second below", INDEX, () -> x.unlink(0, -1));
        Checks.dueThrow("4 only a way", DENIED, () -> x.unlink(0, 2));
        Checks.dueText("4 denial 4", "4 2" + NO_CAUSE, Larders.denialOf(x));
        Checks.dueThrow("4 same", DENIED, () -> x.unlink(1, 1));
        Checks.dueText("4 same is denial 4", "4 2" + NO_CAUSE, Larders.denialOf(x));
        Checks.due("4 backwards", 1, () -> x.unlink(2, 1));
        Checks.due("4 neighbours of 1", 1, () -> x.neighbourCount(1));
        Checks.due("4 neighbours of 2", 0, () -> x.neighbourCount(2));
        Checks.dueThrow("4 again", DENIED, () -> x.unlink(1, 2));
        Checks.due("4 last", 0, () -> x.unlink(0, 1));
    }

    private static void promise5SetBlind() {
        LarderPatrol x = Larders.withCheese(0, 0);
        Checks.dueThrow("5 below", INDEX, () -> x.setBlind(-1, true));
        Checks.dueThrow("5 above", INDEX, () -> x.setBlind(2, false));
        Checks.dueThrow("5 not blind yet", DENIED, () -> x.setBlind(1, false));
        Checks.dueText("5 denial 5 false", "5 0" + NO_CAUSE, Larders.denialOf(x));
        Checks.due("5 one", 1, () -> x.setBlind(1, true));
        Checks.due("5 two", 2, () -> x.setBlind(0, true));
        Checks.dueThrow("5 blind already", DENIED, () -> x.setBlind(1, true));
        Checks.dueText("5 denial 5 true", "5 1" + NO_CAUSE, Larders.denialOf(x));
        Checks.due("5 back", 1, () -> x.setBlind(1, false));
        Checks.dueTrue("5 the other stays blind", x.isBlind(0) && !x.isBlind(1));
    }

    private static void promise6Fill() {
        LarderPatrol x = Larders.withCheese(5, 98);
        Checks.dueThrow("6 shelf below", INDEX, () -> x.fill(-1, 1));
        Checks.dueThrow("6 shelf above", INDEX, () -> x.fill(2, 1));
        Checks.dueThrow("6 shelf before grams", INDEX, () -> x.fill(2, 0));
        Checks.dueThrow("6 grams 0", ARGUMENT, () -> x.fill(0, 0));
        Checks.dueThrow("6 grams below", ARGUMENT, () -> x.fill(0, -1));
        Checks.dueThrow("6 grams 100", ARGUMENT, () -> x.fill(1, 100));
        Checks.dueThrow("6 largest int", ARGUMENT, () -> x.fill(1, Integer.MAX_VALUE));
        Checks.dueThrow("6 no denial yet", NO_ELEMENT, x::denial);
        Checks.due("6 one more", 99, () -> x.fill(1, 1));
        Checks.dueThrow("6 full", DENIED, () -> x.fill(1, 1));
        Checks.dueText("6 denial 1", "1 99" + NO_CAUSE, Larders.denialOf(x));
        Checks.dueThrow("6 too much", DENIED, () -> x.fill(0, 95));
        Checks.due("6 to the edge", 99, () -> x.fill(0, 94));
        Checks.due("6 99 at once", 99, () -> Larders.withCheese(0).fill(0, 99));
    }

    private static void promises7To11Reading() {
        LarderPatrol x = Larders.inARow(7, 0, 31);
        Checks.due("7 shelves", 3, x::shelfCount);
        Checks.due("8 passages", 2, x::passageCount);
        Checks.due("9 cheese", 31, () -> x.cheese(2));
        Checks.dueThrow("9 below", INDEX, () -> x.cheese(-1));
        Checks.dueThrow("9 above", INDEX, () -> x.cheese(3));
        x.setBlind(2, true);
        Checks.dueTrue("10 blind", x.isBlind(2));
        Checks.dueTrue("10 not blind", !x.isBlind(1));
        Checks.dueThrow("10 below", INDEX, () -> x.isBlind(-1) ? 1 : 0);
        Checks.dueThrow("10 above", INDEX, () -> x.isBlind(3) ? 1 : 0);
        Checks.due("11 end", 1, () -> x.neighbourCount(0));
        Checks.due("11 middle", 2, () -> x.neighbourCount(1));
        Checks.due("11 centre of a star", 11, () -> Larders.withPassages(20).neighbourCount(0));
        Checks.dueThrow("11 below", INDEX, () -> x.neighbourCount(-1));
        Checks.dueThrow("11 above", INDEX, () -> x.neighbourCount(3));
    }

    private static void promises12And13Distances() {
        LarderPatrol x = Larders.inARow(0, 0, 0, 0, 0, 0, 0, 0, 0, 0, 0);
        x.addShelf(0);
        Checks.due("12 to itself", 0, () -> x.distance(11, 11));
        Checks.due("13 to itself", 0, () -> x.distanceByTable(11, 11));
        Checks.due("12 whole row", 10, () -> x.distance(10, 0));
        Checks.due("13 whole row", 10, () -> x.distanceByTable(10, 0));
        Checks.dueThrow("12 no way", NO_ELEMENT, () -> x.distance(0, 11));
        Checks.dueThrow("13 no way", NO_ELEMENT, () -> x.distanceByTable(0, 11));
        x.link(10, 11);
        Checks.due("12 longest", 11, () -> x.distance(0, 11));
        Checks.due("13 longest", 11, () -> x.distanceByTable(0, 11));
        x.unlink(4, 5);
        Checks.dueThrow("12 cut", NO_ELEMENT, () -> x.distance(4, 5));
        Checks.dueThrow("13 cut", NO_ELEMENT, () -> x.distanceByTable(4, 5));
        Checks.dueThrow("12 first", INDEX, () -> x.distance(12, 0));
        Checks.dueThrow("12 second", INDEX, () -> x.distance(0, -1));
        Checks.dueThrow("13 first", INDEX, () -> x.distanceByTable(-1, 0));
        Checks.dueThrow("13 second", INDEX, () -> x.distanceByTable(0, 12));
        Checks.dueThrow("12 none to itself", INDEX, () -> new LarderPatrol().distance(0, 0));
        Checks.dueThrow("13 none to itself", INDEX, () -> new LarderPatrol().distanceByTable(0, 0));
    }

    private static void promise13TableOnRings() {
        for (int size = 3; size <= 12; size++) {
            LarderPatrol x = Larders.inARow(new int[size]);
            x.link(size - 1, 0);
            for (int first = 0; first < size; first++) {
                for (int second = 0; second < size; second++) {
                    int from = first;
                    int to = second;
                    int apart = Math.abs(first - second);
                    int due = Math.min(apart, size - apart);
                    Checks.due("12 ring", due, () -> x.distance(from, to));
                    Checks.due("13 ring", due, () -> x.distanceByTable(from, to));
                }
            }
        }
    }

    private static void promise14Groups() {
        Checks.due("14 none", 0, () -> new LarderPatrol().groupCount());
        LarderPatrol x = Larders.withCheese(0, 0, 0, 0, 0, 0);
        Checks.due("14 alone", 6, x::groupCount);
        x.link(0, 5);
        x.link(4, 1);
        x.link(5, 3);
        Checks.due("14 three", 3, x::groupCount);
        x.link(0, 3);
        Checks.due("14 a ring joins nothing", 3, x::groupCount);
        x.link(3, 4);
        Checks.due("14 two", 2, x::groupCount);
        x.unlink(3, 4);
        Checks.due("14 three again", 3, x::groupCount);
        Checks.due("14 row of 12", 1, () -> Larders.inARow(new int[12]).groupCount());
    }

    private static void promise15Ranks() {
        LarderPatrol x = Larders.withCheese(5, 9, 5, 0, 9);
        int[] due = {1, 4, 0, 2, 3};
        for (int rank = 0; rank < due.length; rank++) {
            int asked = rank;
            Checks.due("15 rank", due[rank], () -> x.shelfByCheese(asked));
        }
        Checks.dueThrow("15 above", NO_ELEMENT, () -> x.shelfByCheese(5));
        Checks.dueThrow("15 below", NO_ELEMENT, () -> x.shelfByCheese(-1));
        Checks.dueThrow("15 no shelves", NO_ELEMENT, () -> new LarderPatrol().shelfByCheese(0));
    }
}
