/** Promises 49 to 51. */
final class DenialPromises {
    private static final Class<UnsupportedOperationException> DENIED = UnsupportedOperationException.class;

    private DenialPromises() {
    }

    static void run() {
        nothingDenied();
        keptUntilTheNext();
        causes();
        untouchedByUndoAndSnapshots();
    }

    private static void nothingDenied() {
        LarderPatrol x = new LarderPatrol();
        String none = "throws.NoSuchElementException throws.NoSuchElementException throws.NoSuchElementException";
        Checks.dueText("49 to 51 nothing yet", none, Larders.denialOf(x));
        Checks.dueThrow("49 no denial: range", IllegalArgumentException.class, () -> x.addShelf(100));
        Checks.dueThrow("49 no denial: index", IndexOutOfBoundsException.class, () -> x.link(0, 0));
        Checks.dueThrow("49 no denial: text", IllegalArgumentException.class, x::execute);
        Checks.dueText("49 to 51 still nothing", none, Larders.denialOf(x));
    }

    private static void keptUntilTheNext() {
        LarderPatrol x = Larders.withCheese(0, 0);
        Checks.dueThrow("49 link", DENIED, () -> x.link(1, 1));
        Checks.due("49 same", 2, x::denial);
        Checks.due("50 shelf", 1, x::denialDetail);
        Checks.dueThrow("51 no cause", java.util.NoSuchElementException.class, x::denialCause);
        x.link(0, 1);
        Checks.due("49 kept after a change", 2, x::denial);
        Checks.dueThrow("49 index", IndexOutOfBoundsException.class, () -> x.link(0, 2));
        Checks.due("49 kept after another exception", 2, x::denial);
        Checks.dueThrow("49 text", DENIED, () -> Larders.execute(x, "show 1"));
        Checks.dueText("49 to 51 replaced", "6 0 5", Larders.denialOf(x));
        Checks.dueThrow("49 cut", DENIED, () -> x.unlink(0, 0));
        Checks.dueText("49 to 51 the cause is gone", "4 1 throws.NoSuchElementException", Larders.denialOf(x));
    }

    private static void cause(String text, String due) {
        LarderPatrol x = Larders.withPassages(20);
        for (int stop = 0; stop < 10; stop++) {
            x.addStop(0);
        }
        x.fill(0, 99);
        x.setBlind(11, true);
        Checks.dueThrow("51 '" + text + "'", DENIED, () -> Larders.execute(x, text));
        Checks.dueText("51 of '" + text + "'", due, Larders.denialOf(x));
    }

    private static void causes() {
        cause("shelf 1", "6 0 1");
        cause("wait 1;link 10-11", "6 1 1");
        cause("fill 1 1;fill 1 1;fill 0 99;fill 0 0", "6 2 1");
        cause("stop 3", "6 0 1");
        cause("link 7-7", "6 0 2");
        cause("link 1-0", "6 0 3");
        cause("cut 10-11", "6 0 4");
        cause("hide 11", "6 0 5");
        cause("show 1", "6 0 5");
        cause("link 12-0", "6 0 7");
        cause("link 0-12", "6 0 7");
        cause("cut 0-99", "6 0 7");
        cause("hide 12", "6 0 7");
        cause("show 12", "6 0 7");
        cause("fill 12 1", "6 0 7");
        cause("fill 0 0", "6 0 7");
        cause("fill 0 1", "6 0 1");
        cause("stop 12", "6 0 7");
        cause("drop 9;drop 9", "6 1 7");
        cause("rate 17", "6 0 7");
        cause("seed 1024", "6 0 7");
        cause("wait 0", "6 0 7");
        cause("wait 1;wait 1;wait 1;wait 61", "6 3 7");
    }

    private static void untouchedByUndoAndSnapshots() {
        LarderPatrol x = Larders.withCheese(0);
        x.saveSnapshot();
        Checks.dueThrow("49 show", DENIED, () -> x.setBlind(0, false));
        x.undo();
        Checks.dueText("49 to 51 after undo", "5 0 throws.NoSuchElementException", Larders.denialOf(x));
        x.restoreSnapshot();
        Checks.dueText("49 to 51 after restore", "5 0 throws.NoSuchElementException", Larders.denialOf(x));
    }
}
