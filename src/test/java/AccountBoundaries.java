/** Boundary cases of promises 35 to 42. */
final class AccountBoundaries extends Boundaries {
    private AccountBoundaries() {
    }

    static void run() {
        promise35();
        promise36();
        promises37And38();
        promises39And40();
        promise41();
        promise42();
    }

    private static void promise35() {
        promise(35, "Returns the cheese on all shelves.", x -> {
            due("no shelves", 0, x::totalCheese);
            x.addShelf(0);
            due("an empty shelf", 0, x::totalCheese);
            Larders.addShelves(x, 99, 99, 99, 99, 99, 99, 99, 99, 99, 99, 99);
            x.fill(0, 99);
            due("all twelve are full", 12 * 99, x::totalCheese);
            dueThrow("one gram more", DENIED, () -> x.fill(11, 1));
            due("all is as it was", 12 * 99, x::totalCheese);
        });
    }

    private static void bothTotals(LarderPatrol x, String what, int grams) {
        due(what + ": on the shelves", grams, x::totalCheese);
        due(what + ": by the accounts", grams, x::totalCheeseByAccounts);
    }

    private static void promise36() {
        promise(36, "It always equals totalCheese.", x -> {
            bothTotals(x, "no shelves", 0);
            x.saveSnapshot();
            Larders.addShelves(x, 0, 2);
            bothTotals(x, "put by addShelf", 2);
            x.fill(0, 1);
            bothTotals(x, "put by fill", 3);
            dueThrow("a fill that is denied", DENIED, () -> x.fill(1, 98));
            dueThrow("a text that fails", DENIED, () -> Larders.execute(x, "shelf 9;fill 0 9;fill 0 99"));
            bothTotals(x, "after refused calls", 3);
            Larders.letMouseAppear(x, 1);
            x.pass(2);
            bothTotals(x, "a shelf eaten up", 1);
            x.pass(3);
            bothTotals(x, "a mouse that left took nothing back", 1);
            x.undo();
            x.undo();
            bothTotals(x, "the eating is undone", 3);
            x.restoreSnapshot();
            bothTotals(x, "no shelves again", 0);
        });
    }

    private static void promises37And38() {
        promise(37, "Returns the cheese that mice have eaten so far.", x -> {
            due("nothing", 0, x::eaten);
            Larders.addShelves(x, 9, 2);
            Larders.letMouseAppear(x, 1);
            due("not in its first minute", 0, x::eaten);
            x.pass(2);
            due("all that was there", 2, x::eaten);
            x.pass(3);
            due("no more, and kept when the mouse leaves", 2, x::eaten);
            due("which it has", 1, x::gone);
        });
        promise(38, "Returns the number of mice caught so far.", x -> {
            due("none", 0, x::caught);
            x.addShelf(99);
            x.setBlind(0, true);
            x.setRate(16);
            x.pass(9);
            due("none on a blind shelf", 0, x::caught);
            x.setRate(0);
            x.setBlind(0, false);
            x.pass(1);
            due("eight at once", 8, x::caught);
            x.pass(60);
            due("eight still", 8, x::caught);
            x.setRate(16);
            x.pass(2);
            due("nine in all", 9, x::caught);
        });
    }

    private static void promises39And40() {
        promise(39, "Returns the number of mice that have left so far.", x -> {
            due("none", 0, x::gone);
            Larders.addShelves(x, 9, 0);
            Larders.letMouseAppear(x, 0);
            x.pass(1);
            due("a caught one has not left", 0, x::gone);
            Larders.letMouseAppear(x, 1);
            x.pass(2);
            due("a minute before", 0, x::gone);
            x.pass(1);
            due("in the third hungry minute", 1, x::gone);
            x.pass(60);
            due("only once", 1, x::gone);
        });
        promise(40, "Returns the rinds so far.", x -> {
            due("none", 0, x::rinds);
            Larders.addShelves(x, 9, 1);
            Larders.letMouseAppear(x, 1);
            x.pass(4);
            due("one that has left", 1, x::gone);
            due("leaves none", 0, x::rinds);
            Larders.letMouseAppear(x, 0);
            x.pass(1);
            due("one that was caught at once", 1, x::caught);
            due("had eaten nothing", 0, x::rinds);
            x.setBlind(0, true);
            Larders.letMouseAppear(x, 0);
            x.pass(3);
            due("one that is not caught yet", 0, x::rinds);
            x.setBlind(0, false);
            x.pass(1);
            due("is caught", 3, x::rinds);
        });
    }

    private static void promise41() {
        promise(41, "the sum converted to double, divided by their number converted to double.", x -> {
            Larders.addShelves(x, 99, 0, 0);
            dueDouble("a whole number", 33.0, x.meanCheese());
            x.fill(1, 1);
            dueDouble("no whole number", 100.0 / 3.0, x.meanCheese());
            x.undo();
            x.undo();
            dueDouble("a half", 49.5, x.meanCheese());
            Larders.addShelves(x, 99, 99, 99, 99, 99, 99, 99, 99, 99, 99);
            x.fill(1, 99);
            dueDouble("the most", 99.0, x.meanCheese());
        });
        promise(41, "Throws `ArithmeticException` if there are no shelves", x -> {
            dueThrow("no shelves", ARITHMETIC, () -> (long) x.meanCheese());
            x.addShelf(0);
            dueDouble("one empty shelf", 0.0, x.meanCheese());
            x.undo();
            dueThrow("none again", ARITHMETIC, () -> (long) x.meanCheese());
        });
    }

    private static void promise42() {
        promise(42, "both numbers converted to float.", x -> {
            Larders.addShelves(x, 9, 0);
            Larders.letMouseAppear(x, 0);
            x.pass(1);
            dueDouble("all were caught", 1.0f, x.caughtShare());
            Larders.letMouseAppear(x, 1);
            x.pass(3);
            dueDouble("a half", 0.5f, x.caughtShare());
            Larders.letMouseAppear(x, 1);
            x.pass(3);
            dueDouble("a third, in float", 1.0f / 3.0f, x.caughtShare());
        });
        promise(42, "Throws `ArithmeticException` if no mouse was caught or has left", x -> {
            dueThrow("no shelves", ARITHMETIC, () -> (long) x.caughtShare());
            Larders.addShelves(x, 9, 0);
            Larders.letMouseAppear(x, 1);
            x.pass(2);
            dueThrow("a mouse that is here still", ARITHMETIC, () -> (long) x.caughtShare());
            x.pass(1);
            dueDouble("it has left", 0.0f, x.caughtShare());
            x.undo();
            dueThrow("undone", ARITHMETIC, () -> (long) x.caughtShare());
        });
    }
}
