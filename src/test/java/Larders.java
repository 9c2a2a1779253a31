/** Larders that many tests begin with, and small steps on them. */
final class Larders {
    private Larders() {
    }

    static void addShelves(LarderPatrol x, int... grams) {
        for (int cheese : grams) {
            x.addShelf(cheese);
        }
    }

    static void linkInARow(LarderPatrol x) {
        for (int shelf = 1; shelf < x.shelfCount(); shelf++) {
            x.link(shelf - 1, shelf);
        }
    }

    /** Makes twelve empty shelves with the first `passages` passages in the order 0-1, 0-2, .. 1-2, .. */
    static void addPassages(LarderPatrol x, int passages) {
        addShelves(x, new int[12]);
        for (int first = 0; first < 12; first++) {
            for (int second = first + 1; second < 12 && x.passageCount() < passages; second++) {
                x.link(first, second);
            }
        }
    }

    static void addStops(LarderPatrol x, int... shelves) {
        for (int shelf : shelves) {
            x.addStop(shelf);
        }
    }

    static LarderPatrol withCheese(int... grams) {
        LarderPatrol x = new LarderPatrol();
        addShelves(x, grams);
        return x;
    }

    /** Shelves 0 - 1 - 2 - .. in a row, each with its cheese. */
    static LarderPatrol inARow(int... grams) {
        LarderPatrol x = withCheese(grams);
        linkInARow(x);
        return x;
    }

    /** As addPassages makes them. */
    static LarderPatrol withPassages(int passages) {
        LarderPatrol x = new LarderPatrol();
        addPassages(x, passages);
        return x;
    }

    /** The seed whose next one is `next`. */
    static int seedBefore(int next) {
        for (int seed = 0; seed < 1024; seed++) {
            if ((seed * 109 + 89) % 1024 == next) {
                return seed;
            }
        }
        throw new IllegalArgumentException("no seed leads to " + next);
    }

    /** Lets one minute pass at whose end a mouse appears on the shelf; no further mice appear after it. */
    static void letMouseAppear(LarderPatrol x, int shelf) {
        x.setSeed(seedBefore(16 * shelf));
        x.setRate(16);
        x.pass(1);
        x.setRate(0);
    }

    static void feedAll(LarderPatrol x, String text) {
        for (int index = 0; index < text.length(); index++) {
            x.feed(text.charAt(index));
        }
    }

    static int execute(LarderPatrol x, String text) {
        feedAll(x, text);
        return x.execute();
    }

    static String line(LarderPatrol x, int length) {
        StringBuilder line = new StringBuilder();
        for (int index = 0; index < length; index++) {
            line.append(x.lineCharacter(index));
        }
        return line.toString();
    }

    static String shelfLine(LarderPatrol x, int shelf) {
        return line(x, x.writeShelf(shelf));
    }

    static String patrolLine(LarderPatrol x) {
        return line(x, x.writePatrol());
    }

    static String denialOf(LarderPatrol x) {
        return Checks.answerOf(x::denial) + " " + Checks.answerOf(x::denialDetail) + " " + Checks.answerOf(x::denialCause);
    }
}
