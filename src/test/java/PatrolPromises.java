/** Promises 16 to 23, and step 1 of a minute. */
final class PatrolPromises {
    private static final Class<IndexOutOfBoundsException> INDEX = IndexOutOfBoundsException.class;
    private static final Class<UnsupportedOperationException> DENIED = UnsupportedOperationException.class;
    private static final Class<java.util.NoSuchElementException> NO_ELEMENT = java.util.NoSuchElementException.class;

    private PatrolPromises() {
    }

    static void run() {
        promise16AddStop();
        promise17RemoveStop();
        promise17GoalAfterRemoval();
        promises18And19Reading();
        promises20And21CatAndGoal();
        promise22NextShelf();
        promise22SmallestOfTheNearest();
        promise23LapLength();
        stepOneOfAMinute();
        stepOneWithoutAWay();
    }

    private static LarderPatrol withStops(int... shelves) {
        LarderPatrol x = Larders.inARow(0, 0, 0, 0);
        x.setRate(0);
        for (int shelf : shelves) {
            x.addStop(shelf);
        }
        return x;
    }

    private static void promise16AddStop() {
        LarderPatrol x = Larders.withCheese(0, 0);
        Checks.dueThrow("16 below", INDEX, () -> x.addStop(-1));
        Checks.dueThrow("16 above", INDEX, () -> x.addStop(2));
        for (int stops = 1; stops <= 10; stops++) {
            Checks.due("16 the same shelf again", stops, () -> x.addStop(1));
        }
        Checks.dueThrow("16 shelf before denial", INDEX, () -> x.addStop(2));
        Checks.dueThrow("16 full", DENIED, () -> x.addStop(0));
        Checks.dueText("16 denial 1", "1 10 throws.NoSuchElementException", Larders.denialOf(x));
        Checks.due("16 still ten", 10, x::stopCount);
    }

    private static void promise17RemoveStop() {
        LarderPatrol x = withStops(3, 0, 2);
        Checks.dueThrow("17 below", INDEX, () -> x.removeStop(-1));
        Checks.dueThrow("17 above", INDEX, () -> x.removeStop(3));
        Checks.due("17 middle", 0, () -> x.removeStop(1));
        Checks.due("17 later moved up", 2, () -> x.shelfOfStop(1));
        Checks.due("17 earlier stays", 3, () -> x.shelfOfStop(0));
        Checks.due("17 last", 2, () -> x.removeStop(1));
        Checks.due("17 only one", 3, () -> x.removeStop(0));
        Checks.dueThrow("17 none left", INDEX, () -> x.removeStop(0));
        Checks.due("17 count", 0, x::stopCount);
        for (int stops = 1; stops <= 10; stops++) {
            x.addStop(stops % 4);
        }
        Checks.due("17 first of ten", 1, () -> x.removeStop(0));
        Checks.due("17 the tenth moved up", 2, () -> x.shelfOfStop(8));
        Checks.dueThrow("17 nine left", INDEX, () -> x.shelfOfStop(9));
    }

    private static void promise17GoalAfterRemoval() {
        LarderPatrol x = withStops(0, 0, 0, 1);
        x.pass(3);
        Checks.due("17 goal before", 3, x::goal);
        x.removeStop(0);
        Checks.due("17 a smaller number", 2, x::goal);
        x.addStop(2);
        x.removeStop(3);
        Checks.due("17 a larger number", 2, x::goal);
        x.addStop(2);
        x.removeStop(2);
        Checks.due("17 the goal itself", 2, x::goal);
        Checks.due("17 the stop with its number", 2, () -> x.shelfOfStop(2));
        x.removeStop(2);
        Checks.due("17 none with its number", 0, x::goal);
        x.removeStop(0);
        x.removeStop(0);
        Checks.dueThrow("17 no goal", NO_ELEMENT, x::goal);
        x.addStop(3);
        Checks.due("17 goal of the first again", 0, x::goal);
    }

    private static void promises18And19Reading() {
        LarderPatrol x = withStops(2, 2, 1);
        Checks.due("18 stops", 3, x::stopCount);
        Checks.due("19 stop 1", 2, () -> x.shelfOfStop(1));
        Checks.due("19 stop 2", 1, () -> x.shelfOfStop(2));
        Checks.dueThrow("19 below", INDEX, () -> x.shelfOfStop(-1));
        Checks.dueThrow("19 above", INDEX, () -> x.shelfOfStop(3));
        Checks.dueThrow("19 none", INDEX, () -> new LarderPatrol().shelfOfStop(0));
    }

    private static void promises20And21CatAndGoal() {
        LarderPatrol x = new LarderPatrol();
        Checks.dueThrow("20 no shelves", NO_ELEMENT, x::catShelf);
        Checks.dueThrow("21 no stops", NO_ELEMENT, x::goal);
        x.addShelf(3);
        Checks.due("20 shelf 0", 0, x::catShelf);
        Checks.dueThrow("21 still no stops", NO_ELEMENT, x::goal);
        x.addShelf(3);
        x.addStop(1);
        Checks.due("21 stop 0", 0, x::goal);
        x.link(0, 1);
        x.pass(1);
        Checks.due("20 walked", 1, x::catShelf);
        x.removeStop(0);
        Checks.due("20 stays without stops", 1, x::catShelf);
    }

    private static void promise22NextShelf() {
        LarderPatrol x = new LarderPatrol();
        Checks.dueThrow("22 no shelves", NO_ELEMENT, x::nextShelf);
        x.addShelf(0);
        Checks.due("22 no stops", 0, x::nextShelf);
        x.addShelf(0);
        x.addStop(1);
        Checks.due("22 no way", 0, x::nextShelf);
        x.link(0, 1);
        Checks.due("22 a way", 1, x::nextShelf);
        Checks.due("22 asking moves nothing", 0, x::catShelf);
        x.addStop(1);
        x.pass(1);
        Checks.due("22 already there", 1, x::nextShelf);
    }

    /** Two shortest ways from 0 to 5, by 4 and by 2; the detour by 1 begins with the smallest index. */
    private static void promise22SmallestOfTheNearest() {
        LarderPatrol x = Larders.withCheese(0, 0, 0, 0, 0, 0);
        x.setRate(0);
        x.link(0, 1);
        x.link(1, 3);
        x.link(3, 5);
        x.link(0, 4);
        x.link(4, 5);
        x.addStop(5);
        Checks.due("22 the only nearest", 4, x::nextShelf);
        x.link(0, 2);
        x.link(2, 5);
        Checks.due("22 the smallest of two", 2, x::nextShelf);
        x.pass(1);
        Checks.due("22 the cat is there", 2, x::catShelf);
        Checks.due("22 straight on", 5, x::nextShelf);
    }

    private static void promise23LapLength() {
        LarderPatrol x = withStops();
        Checks.due("23 no stops", 0, x::lapLength);
        Checks.due("23 no shelves", 0, () -> new LarderPatrol().lapLength());
        x.addStop(3);
        Checks.due("23 one stop", 0, x::lapLength);
        x.addStop(0);
        Checks.due("23 there and back", 6, x::lapLength);
        x.addStop(2);
        Checks.due("23 a triangle", 3 + 2 + 1, x::lapLength);
        x.addStop(2);
        Checks.due("23 the same twice", 6, x::lapLength);
        x.unlink(2, 3);
        Checks.dueThrow("23 no way", NO_ELEMENT, x::lapLength);
        x.removeStop(0);
        Checks.due("23 a way again", 4, x::lapLength);
        x.addStop(3);
        Checks.dueThrow("23 no way at the end", NO_ELEMENT, x::lapLength);
    }

    private static void stepOneOfAMinute() {
        LarderPatrol x = withStops(2, 2, 1);
        int[] cat = {1, 2, 2, 1, 2, 2, 1};
        int[] goal = {0, 1, 2, 0, 1, 2, 0};
        for (int minute = 0; minute < cat.length; minute++) {
            x.pass(1);
            Checks.due("step 1 cat", cat[minute], x::catShelf);
            Checks.due("step 1 goal", goal[minute], x::goal);
        }
        LarderPatrol one = withStops(0);
        one.pass(5);
        Checks.due("step 1 one stop", 0, one::goal);
    }

    private static void stepOneWithoutAWay() {
        LarderPatrol x = withStops(3, 0);
        x.pass(1);
        x.unlink(2, 3);
        x.pass(4);
        Checks.due("step 1 stays", 1, x::catShelf);
        Checks.due("step 1 keeps the goal", 0, x::goal);
        x.link(0, 3);
        x.pass(1);
        Checks.due("step 1 another way", 0, x::catShelf);
        Checks.due("step 1 only the goal's shelf counts", 0, x::goal);
        x.pass(1);
        Checks.due("step 1 arrived", 3, x::catShelf);
        Checks.due("step 1 next goal", 1, x::goal);
    }
}
