/** Promises 35 to 42. */
final class AccountPromises {
    private AccountPromises() {
    }

    static void run() {
        promises35And36Totals();
        promises37To40Accounts();
        promise41MeanCheese();
        promise42CaughtShare();
    }

    private static void promises35And36Totals() {
        LarderPatrol x = new LarderPatrol();
        Checks.due("35 nothing", 0, x::totalCheese);
        Checks.due("36 nothing", 0, x::totalCheeseByAccounts);
        x.addShelf(40);
        x.addShelf(99);
        x.fill(0, 7);
        Checks.due("35 put", 146, x::totalCheese);
        Checks.due("36 put", 146, x::totalCheeseByAccounts);
        Checks.dueThrow("36 denied", UnsupportedOperationException.class, () -> x.fill(1, 1));
        x.setBlind(0, true);
        x.setRate(16);
        x.pass(9);
        Checks.due("35 the rest", 146 - x.eaten(), x::totalCheese);
        Checks.due("36 the rest", 146 - x.eaten(), x::totalCheeseByAccounts);
        x.undo();
        Checks.due("35 undone", 146, x::totalCheese);
        Checks.due("36 undone", 146, x::totalCheeseByAccounts);
        for (int shelf = 2; shelf < 12; shelf++) {
            x.addShelf(99);
        }
        Checks.due("35 twelve shelves", 146 + 990, x::totalCheese);
        Checks.due("36 twelve shelves", 146 + 990, x::totalCheeseByAccounts);
    }

    /** One mouse is caught with 2 grams, one leaves with 1 gram. */
    private static LarderPatrol afterTwoMice() {
        LarderPatrol x = Larders.withCheese(9, 1);
        x.setBlind(0, true);
        Larders.letMouseAppear(x, 0);
        x.pass(2);
        x.setBlind(0, false);
        x.pass(1);
        Larders.letMouseAppear(x, 1);
        x.pass(4);
        return x;
    }

    private static void promises37To40Accounts() {
        LarderPatrol x = afterTwoMice();
        Checks.due("37 eaten", 3, x::eaten);
        Checks.due("38 caught", 1, x::caught);
        Checks.due("39 gone", 1, x::gone);
        Checks.due("40 rinds", 2, x::rinds);
        Checks.due("35 left", 7, x::totalCheese);
        x.undo();
        Checks.due("37 undone", 2, x::eaten);
        Checks.due("39 undone", 0, x::gone);
    }

    private static void promise41MeanCheese() {
        Checks.dueThrow("41 no shelves", ArithmeticException.class, () -> (long) new LarderPatrol().meanCheese());
        Checks.dueDouble("41 one", 7.0, Larders.withCheese(7).meanCheese());
        Checks.dueDouble("41 third", 10.0 / 3.0, Larders.withCheese(1, 0, 9).meanCheese());
        Checks.dueDouble("41 empty", 0.0, Larders.withCheese(0, 0).meanCheese());
    }

    private static void promise42CaughtShare() {
        LarderPatrol fresh = new LarderPatrol();
        Checks.dueThrow("42 none", ArithmeticException.class, () -> (long) fresh.caughtShare());
        Checks.dueDouble("42 half", 0.5f, afterTwoMice().caughtShare());
        LarderPatrol x = afterTwoMice();
        x.setRate(16);
        x.pass(1);
        for (int minute = 0; minute < 100 && x.caught() < 2; minute++) {
            x.pass(1);
        }
        Checks.dueTrue("42 the cat has caught another one", x.caught() >= 2);
        int caught = x.caught();
        int gone = x.gone();
        Checks.dueDouble("42 share in float", (float) caught / (float) (caught + gone), x.caughtShare());
        LarderPatrol thirds = onlyGone(2);
        thirds.setRate(16);
        thirds.setSeed(Larders.seedBefore(0));
        thirds.pass(1);
        thirds.setRate(0);
        Checks.dueDouble("42 only gone", 0.0f, thirds.caughtShare());
        thirds.pass(1);
        Checks.dueDouble("42 a third", 1.0f / 3.0f, thirds.caughtShare());
        LarderPatrol y = Larders.withCheese(9);
        y.setRate(16);
        y.pass(2);
        Checks.dueDouble("42 only caught", 1.0f, y.caughtShare());
    }

    private static LarderPatrol onlyGone(int mice) {
        LarderPatrol x = Larders.withCheese(0, 0);
        for (int mouse = 0; mouse < mice; mouse++) {
            Larders.letMouseAppear(x, 1);
        }
        x.pass(3);
        return x;
    }
}
