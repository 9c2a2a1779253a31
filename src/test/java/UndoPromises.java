/** Promises 52 to 55. */
final class UndoPromises {
    private static final Class<IllegalStateException> STATE = IllegalStateException.class;

    private UndoPromises() {
    }

    static void run() {
        promise52EveryChange();
        promise52Everything();
        promises52And53OnlyEight();
        promise53WhatCounts();
        promise54SaveSnapshot();
        promise55RestoreSnapshot();
        textAndLineAreUntouched();
    }

    private static void promise52EveryChange() {
        LarderPatrol x = new LarderPatrol();
        Checks.dueThrow("52 none", STATE, x::undo);
        x.addShelf(5);
        x.addShelf(6);
        x.link(0, 1);
        x.setBlind(1, true);
        x.fill(0, 3);
        x.addStop(1);
        Checks.due("53 six", 6, x::undoCount);
        Checks.due("52 stop", 5, x::undo);
        Checks.due("52 no stop", 0, x::stopCount);
        Checks.due("52 fill", 4, x::undo);
        Checks.due("52 cheese", 5, () -> x.cheese(0));
        Checks.due("52 accounts", 11, x::totalCheeseByAccounts);
        Checks.due("52 blind", 3, x::undo);
        Checks.dueTrue("52 not blind", !x.isBlind(1));
        Checks.due("52 link", 2, x::undo);
        Checks.due("52 no passage", 0, x::passageCount);
        Checks.due("52 no neighbour", 0, () -> x.neighbourCount(1));
        Checks.due("52 shelf", 1, x::undo);
        Checks.due("52 one shelf", 1, x::shelfCount);
        Checks.due("52 shelf 0", 0, x::undo);
        Checks.dueThrow("52 no shelves", java.util.NoSuchElementException.class, x::catShelf);
        Checks.dueThrow("52 none again", STATE, x::undo);
    }

    private static LarderPatrol busy() {
        LarderPatrol x = Larders.inARow(9, 9, 2, 0);
        x.setBlind(0, true);
        x.addStop(3);
        x.addStop(1);
        x.setRate(13);
        x.pass(9);
        return x;
    }

    /** Every answer that tells of the state, in one text. */
    private static String picture(LarderPatrol x) {
        StringBuilder all = new StringBuilder();
        for (int shelf = 0; shelf < x.shelfCount(); shelf++) {
            all.append(Larders.shelfLine(x, shelf)).append(' ');
        }
        for (int mouse = 0; mouse < x.mouseCount(); mouse++) {
            all.append(x.mouseShelf(mouse)).append('/').append(x.mouseEaten(mouse)).append('/');
            all.append(x.mouseHunger(mouse)).append(' ');
        }
        all.append(Larders.patrolLine(x)).append(' ').append(x.passageCount()).append(' ').append(x.seed()).append(' ');
        all.append(x.minute()).append(' ').append(x.totalCheeseByAccounts()).append(' ').append(x.eaten()).append(' ');
        all.append(x.caught()).append(' ').append(x.gone()).append(' ').append(x.rinds()).append(' ');
        return all.append(x.predictCaught(60)).toString();
    }

    private static void promise52Everything() {
        LarderPatrol x = busy();
        String before = picture(x);
        int changes = x.undoCount();
        Checks.due("52 full", 8, () -> changes);
        x.pass(40);
        x.undo();
        Checks.dueText("52 pass", before, picture(x));
        x.removeStop(0);
        x.undo();
        Checks.dueText("52 removeStop", before, picture(x));
        x.setRate(1);
        x.undo();
        Checks.dueText("52 setRate", before, picture(x));
        x.setSeed(77);
        x.undo();
        Checks.dueText("52 setSeed", before, picture(x));
        x.unlink(1, 2);
        x.undo();
        Checks.dueText("52 unlink", before, picture(x));
        Larders.execute(x, "shelf 9;link 4-0;hide 4;stop 4;wait 5;rate 0;seed 9");
        Checks.due("52 a text is one change", 7, x::undo);
        Checks.dueText("52 execute", before, picture(x));
    }

    private static void promises52And53OnlyEight() {
        LarderPatrol x = new LarderPatrol();
        for (int change = 1; change <= 20; change++) {
            x.setSeed(change);
            int due = Math.min(change, 8);
            Checks.due("53 at most eight", due, x::undoCount);
        }
        for (int left = 7; left >= 5; left--) {
            int due = left;
            Checks.due("52 back", due, x::undo);
            Checks.due("52 seed", 12 + due, x::seed);
        }
        x.setSeed(100);
        x.setSeed(101);
        Checks.due("53 seven", 7, x::undoCount);
        Checks.due("52 to 100", 6, x::undo);
        Checks.due("52 seed 100", 100, x::seed);
        Checks.due("52 to 17", 5, x::undo);
        Checks.due("52 seed 17", 17, x::seed);
        for (int left = 4; left >= 0; left--) {
            int due = left;
            Checks.due("52 further back", due, x::undo);
            Checks.due("52 seed further back", 12 + due, x::seed);
        }
        Checks.dueThrow("52 older ones are forgotten", STATE, x::undo);
        Checks.due("52 the oldest that was kept", 12, x::seed);
    }

    private static void promise53WhatCounts() {
        LarderPatrol x = Larders.withCheese(0);
        Checks.due("53 one", 1, x::undoCount);
        Checks.dueThrow("53 denied", UnsupportedOperationException.class, () -> x.setBlind(0, false));
        Checks.dueThrow("53 range", IllegalArgumentException.class, () -> x.setRate(17));
        Checks.dueThrow("53 index", IndexOutOfBoundsException.class, () -> x.addStop(1));
        Checks.dueThrow("53 text", IllegalArgumentException.class, x::execute);
        Checks.dueThrow("53 failed text", UnsupportedOperationException.class, () -> Larders.execute(x, "rate 1;stop 1"));
        x.predictCaught(60);
        x.writeShelf(0);
        x.saveSnapshot();
        x.feed('s');
        Checks.due("53 still one", 1, x::undoCount);
        x.setRate(4);
        Checks.due("53 the same rate is a change", 2, x::undoCount);
    }

    private static void promise54SaveSnapshot() {
        LarderPatrol x = new LarderPatrol();
        Checks.due("54 no shelves", 0, x::saveSnapshot);
        x.addShelf(1);
        x.addShelf(2);
        Checks.due("54 two", 2, x::saveSnapshot);
        Checks.due("54 changes stay", 2, x::undoCount);
        x.addShelf(3);
        Checks.due("54 the later one", 2, x::restoreSnapshot);
        LarderPatrol y = busy();
        String before = picture(y);
        y.saveSnapshot();
        Checks.dueText("54 saving changes nothing", before, picture(y));
        y.pass(60);
        y.addShelf(1);
        y.removeStop(0);
        y.setRate(0);
        y.restoreSnapshot();
        Checks.dueText("54 everything", before, picture(y));
    }

    private static void promise55RestoreSnapshot() {
        LarderPatrol x = Larders.withCheese(1, 2, 3);
        Checks.dueThrow("55 none", STATE, x::restoreSnapshot);
        Checks.due("55 changes stay", 3, x::undoCount);
        x.saveSnapshot();
        x.undo();
        x.undo();
        Checks.due("55 three again", 3, x::restoreSnapshot);
        Checks.due("55 no change", 0, x::undoCount);
        Checks.dueThrow("55 nothing to undo", STATE, x::undo);
        x.addShelf(4);
        Checks.due("55 one change", 1, x::undoCount);
        Checks.due("55 it is kept", 3, x::restoreSnapshot);
        x.setSeed(5);
        Checks.due("55 undo after restore", 0, x::undo);
        Checks.due("55 seed", 0, x::seed);
        x.addShelf(9);
        x.undo();
        Checks.due("55 undo does not touch it", 3, x::restoreSnapshot);
        Checks.due("55 cheese", 6, x::totalCheese);
    }

    private static void textAndLineAreUntouched() {
        LarderPatrol x = Larders.withCheese(42);
        x.saveSnapshot();
        x.writeShelf(0);
        Larders.feedAll(x, "rate ");
        x.undo();
        Checks.due("52 the text stays", 6, () -> x.feed('1'));
        x.restoreSnapshot();
        Checks.due("55 the text stays", 7, () -> x.feed('2'));
        Checks.due("55 the line stays", '2', () -> x.lineCharacter(3));
        Checks.due("55 the text is read", 1, x::execute);
        Checks.due("55 its rate", 12, () -> x.setRate(0));
        Checks.dueThrow("45 a fault", IllegalArgumentException.class, () -> Larders.execute(x, "rat"));
        x.undo();
        x.restoreSnapshot();
        Checks.due("45 the fault position stays", 3, x::faultPosition);
    }
}
