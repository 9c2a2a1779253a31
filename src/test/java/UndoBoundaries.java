/** Boundary cases of promises 52 to 55. */
final class UndoBoundaries extends Boundaries {
    private UndoBoundaries() {
    }

    static void run() {
        eachUndone();
        promise52();
        promise53();
        promise54();
        promise55();
    }

    /** Four shelves, a mouse, the cat on its way, and no change that can be undone. */
    private static void prepare(LarderPatrol x) {
        Larders.addShelves(x, 9, 9, 9, 0);
        Larders.linkInARow(x);
        x.setBlind(3, true);
        Larders.addStops(x, 2, 1, 0);
        Larders.letMouseAppear(x, 3);
        x.saveSnapshot();
        x.restoreSnapshot();
    }

    private static void dueUndone(LarderPatrol x, String before, Checks.Answer change) {
        change.give();
        due("one change", 1, x::undoCount);
        due("undone", 0, x::undo);
        dueText("all as before", before, picture(x));
    }

    private static void eachUndone() {
        promise(52, "Undoes the latest change that can be undone.", x -> {
            prepare(x);
            String before = picture(x);
            dueUndone(x, before, () -> x.addShelf(5));
            dueUndone(x, before, () -> x.link(0, 3));
            dueUndone(x, before, () -> x.unlink(1, 2));
            dueUndone(x, before, () -> x.setBlind(2, true));
            dueUndone(x, before, () -> x.setBlind(3, false));
            dueUndone(x, before, () -> x.fill(0, 90));
        });
        promise(52, "Undoes the latest change that can be undone.", x -> {
            prepare(x);
            String before = picture(x);
            dueUndone(x, before, () -> x.addStop(3));
            dueUndone(x, before, () -> x.removeStop(0));
            dueUndone(x, before, () -> x.setRate(16));
            dueUndone(x, before, () -> x.setSeed(1023));
            dueUndone(x, before, () -> x.pass(1));
            dueUndone(x, before, () -> x.pass(60));
            dueUndone(x, before, () -> Larders.execute(x, "shelf 1;link 4-0;hide 0;drop 0;rate 16;wait 9"));
        });
    }

    private static void promise52() {
        promise(52, "Returns the number of changes that can be undone afterwards.", x -> {
            for (int seed = 1; seed <= 9; seed++) {
                x.setSeed(seed);
            }
            for (int changes = 7; changes >= 0; changes--) {
                int left = changes;
                due("of nine changes eight", left, x::undo);
                due("back to the seed before", left + 1, x::seed);
            }
        });
        promise(52, "Throws `IllegalStateException` if there is none", x -> {
            unchanged(x, () -> dueThrow("a new object", STATE, x::undo));
            x.addShelf(1);
            due("one", 0, x::undo);
            unchanged(x, () -> dueThrow("it was undone", STATE, x::undo));
            dueThrow("a refused call", ARGUMENT, () -> x.addShelf(100));
            dueThrow("is none", STATE, x::undo);
        });
    }

    private static void promise53() {
        promise(53, "Returns the number of changes that can be undone.", x -> {
            due("none", 0, x::undoCount);
            for (int change = 1; change <= 8; change++) {
                int changes = change;
                x.setRate(4);
                due("up to eight", changes, x::undoCount);
            }
            x.setRate(5);
            due("a ninth", 8, x::undoCount);
            x.undo();
            due("one less", 7, x::undoCount);
            dueThrow("a refused call", ARGUMENT, () -> x.setRate(17));
            due("no more", 7, x::undoCount);
        });
    }

    private static void promise54() {
        promise(54, "Saves a snapshot of everything that changes can change; it replaces an earlier snapshot.", x -> {
            due("no shelves", 0, x::saveSnapshot);
            Larders.addShelves(x, new int[12]);
            x.fill(0, 9);
            x.link(0, 1);
            x.setBlind(0, true);
            Larders.addStops(x, 1, 0);
            x.setRate(16);
            x.setSeed(7);
            x.pass(9);
            due("twelve shelves", 12, x::saveSnapshot);
            due("the changes can be undone still", 8, x::undoCount);
            x.undo();
            x.restoreSnapshot();
            due("the minutes", 9, x::minute);
            String saved = picture(x);
            x.pass(59);
            x.removeStop(0);
            x.setRate(0);
            x.restoreSnapshot();
            dueText("everything", saved, picture(x));
            due("the rate too", 16, () -> x.setRate(1));
            due("the empty one was replaced", 12, x::restoreSnapshot);
        });
        promise(54, "Returns the number of shelves.", x -> {
            due("none", 0, x::saveSnapshot);
            Larders.addShelves(x, new int[12]);
            due("all twelve", 12, x::saveSnapshot);
        });
    }

    private static void promise55() {
        promise(55, "Restores the snapshot, which is kept. No change can be undone afterwards.", x -> {
            x.saveSnapshot();
            Larders.addShelves(x, 1, 2, 3);
            due("three changes", 3, x::undoCount);
            due("no shelves", 0, x::restoreSnapshot);
            due("no change", 0, x::undoCount);
            dueThrow("nothing to undo", STATE, x::undo);
            x.addShelf(9);
            due("a change after it", 1, x::undoCount);
            due("once more", 0, x::restoreSnapshot);
            x.addShelf(8);
            due("back to the restored one", 0, x::undo);
            due("no shelves", 0, x::shelfCount);
            due("a third time", 0, x::restoreSnapshot);
        });
        promise(55, "Throws `IllegalStateException` if there is no snapshot", x -> {
            Larders.addShelves(x, 1, 2);
            unchanged(x, () -> dueThrow("a new object", STATE, x::restoreSnapshot));
            due("the changes can be undone still", 1, x::undo);
            x.saveSnapshot();
            due("one is there", 1, x::restoreSnapshot);
        });
    }
}
