/** Boundary cases of promises 43 to 48. */
final class TextBoundaries extends Boundaries {
    private static final String SIXTY = "fill 00 10;fill 00 10;fill 00 10;fill 00 10;fill 0 10;wait 1";

    private TextBoundaries() {
    }

    static void run() {
        promise43();
        promise44Returns();
        promise44AllOrNone();
        promise44EmptyAfterwards();
        promise44Throws();
        promise45();
        promise46();
        promise46Longest();
        promise47();
        promise48();
    }

    private static void promise43() {
        promise(43, "Returns the length of the buffer afterwards.", x -> {
            for (int length = 1; length <= 60; length++) {
                int due = length;
                due("from the first to the sixtieth", due, () -> x.feed('s'));
            }
        });
        promise(43, "any character", x -> {
            due("the least", 1, () -> x.feed((char) 0));
            due("the largest", 2, () -> x.feed((char) 65535));
            due("a line's end", 3, () -> x.feed('\n'));
            dueThrow("they match nothing", ARGUMENT, x::execute);
            due("the fault is the first", 0, x::faultPosition);
        });
        promise(43, "Throws `IllegalStateException` if the buffer has 60 characters", x -> {
            x.addShelf(0);
            Larders.feedAll(x, SIXTY.substring(0, 59));
            due("the sixtieth has room", 60, () -> x.feed(SIXTY.charAt(59)));
            unchanged(x, () -> {
                dueThrow("the 61st", STATE, () -> x.feed(';'));
                dueThrow("and once more", STATE, () -> x.feed((char) 0));
            });
            due("the text is the one before", 6, x::execute);
            due("room for one again", 1, () -> x.feed('s'));
        });
    }

    private static void promise44Returns() {
        promise(44, "Returns the number of commands.", x -> {
            due("the fewest", 1, () -> Larders.execute(x, "shelf 0"));
            due("the most", 8, () -> Larders.execute(x, "rate 1;rate 1;rate 1;rate 1;rate 1;rate 1;rate 1;rate 16"));
            due("the last one counts", 16, () -> x.setRate(4));
            due("a full buffer", 6, () -> Larders.execute(x, SIXTY));
        });
    }

    private static void promise44AllOrNone() {
        promise(44, "executes its commands in their order, either all of them or none.", x -> {
            Larders.execute(x, "shelf 1;shelf 2;link 0-1;hide 1;stop 1");
            due("each needs those before it", 1, x::stopCount);
            dueThrow("a fault in the last one", ARGUMENT, () -> Larders.execute(x, "shelf 3;stop 2;wait 5;rat 3"));
            due("no shelf", 2, x::shelfCount);
            due("no stop", 1, x::stopCount);
            due("no minute", 0, x::minute);
            due("no change", 1, x::undoCount);
        });
        promise(44, "either all of them or none", x -> {
            Larders.addShelves(x, 1, 2);
            String before = picture(x);
            dueThrow("the last one denied", DENIED, () -> Larders.execute(x, "shelf 3;stop 2;wait 5;rate 0;seed 7;show 0"));
            dueText("none was done", before, picture(x));
            dueThrow("the last one out of range", DENIED, () -> Larders.execute(x, "fill 0 9;link 0-1;hide 0;rate 0;wait 0"));
            dueText("none was done again", before, picture(x));
            dueThrow("the first one denied", DENIED, () -> Larders.execute(x, "show 0;rate 0;seed 9"));
            dueText("nor was any behind it", before, picture(x));
            due("not even the rate", 4, () -> x.setRate(4));
        });
    }

    private static void promise44EmptyAfterwards() {
        promise(44, "The buffer is empty afterwards, even if an exception is thrown.", x -> {
            due("a good text", 1, () -> Larders.execute(x, "shelf 1"));
            due("empty", 1, () -> x.feed('x'));
            dueThrow("a fault", ARGUMENT, x::execute);
            due("empty after a fault", 1, () -> x.feed('r'));
            dueThrow("a denial", DENIED, () -> Larders.execute(x, "ate 1;show 0"));
            due("empty after a denial", 1, () -> x.feed('r'));
            dueThrow("out of range", DENIED, () -> Larders.execute(x, "ate 17"));
            due("empty after a value out of range", 1, () -> x.feed('r'));
            due("and of use", 1, () -> Larders.execute(x, "ate 16"));
            dueThrow("an empty buffer is no text", ARGUMENT, x::execute);
            dueThrow("nor is the next one", ARGUMENT, x::execute);
        });
    }

    private static void promise44Throws() {
        promise(44, "Throws `IllegalArgumentException` if the buffer does not match the grammar; the fault position is kept", x -> {
            x.addShelf(0);
            dueThrow("empty", ARGUMENT, x::execute);
            due("its position", 0, x::faultPosition);
            dueThrow("one character too few", ARGUMENT, () -> Larders.execute(x, "rate "));
            due("its position", 5, x::faultPosition);
            dueThrow("one character too many", ARGUMENT, () -> Larders.execute(x, "rate 4;"));
            due("its position", 7, x::faultPosition);
            dueThrow("full, and too short", ARGUMENT, () -> Larders.execute(x, SIXTY.substring(0, 44) + "fill 00 10;shelf"));
            due("its position", 60, x::faultPosition);
            due("full, and a match", 6, () -> Larders.execute(x, SIXTY));
            due("the position is kept", 60, x::faultPosition);
        });
        promise(44, "Throws `UnsupportedOperationException` if denied: 6", x -> {
            dueThrow("the first command", DENIED, () -> Larders.execute(x, "hide 0"));
            dueText("its denial", "6 0 7", Larders.denialOf(x));
            dueThrow("the last of eight", DENIED,
                () -> Larders.execute(x, "rate 1;rate 2;rate 3;rate 4;rate 5;rate 6;rate 7;rate 17"));
            dueText("its denial", "6 7 7", Larders.denialOf(x));
            due("no change", 0, x::undoCount);
        });
    }

    private static void promise45() {
        promise(45, "Returns the fault position that was kept last.", x -> {
            dueThrow("fault at the end", ARGUMENT, () -> Larders.execute(x, "shelf"));
            due("the end", 5, x::faultPosition);
            dueThrow("fault at the beginning", ARGUMENT, () -> Larders.execute(x, "elf 1"));
            due("the beginning", 0, x::faultPosition);
            Larders.execute(x, "shelf 1");
            due("kept after a good text", 0, x::faultPosition);
        });
        promise(45, "Throws `NoSuchElementException` if none was kept yet", x -> {
            dueThrow("a new object", NO_ELEMENT, x::faultPosition);
            Larders.execute(x, "shelf 1");
            dueThrow("after a good text", NO_ELEMENT, x::faultPosition);
            dueThrow("a denied text", DENIED, () -> Larders.execute(x, "show 0"));
            dueThrow("after a denied text", NO_ELEMENT, x::faultPosition);
            x.feed('?');
            dueThrow("before it is executed", NO_ELEMENT, x::faultPosition);
            dueThrow("a fault", ARGUMENT, x::execute);
            due("kept", 0, x::faultPosition);
        });
    }

    private static void promise46() {
        promise(46, "Writes a shelf as the output line, which replaces the previous one", x -> {
            Larders.addShelves(x, 0, 99);
            dueText("cat and no cheese", "0:0C", Larders.shelfLine(x, 0));
            dueText("no cat and the most cheese", "1:99", Larders.shelfLine(x, 1));
            x.setBlind(1, true);
            x.link(0, 1);
            dueText("blind, and one neighbour", "1:99b-0", Larders.shelfLine(x, 1));
            due("a shorter line", 6, () -> x.writeShelf(0));
            dueThrow("the rest of the longer one is gone", INDEX, () -> x.lineCharacter(6));
        });
        promise(46, "Example: \"3:20bCmm-0-4\".", x -> {
            Larders.addShelves(x, 0, 0, 0, 22, 0);
            x.link(3, 4);
            x.link(3, 0);
            x.addStop(3);
            x.setBlind(3, true);
            Larders.letMouseAppear(x, 3);
            Larders.letMouseAppear(x, 3);
            x.fill(3, 1);
            x.pass(1);
            dueText("two mice beside the cat", "3:20bCmm-0-4", Larders.shelfLine(x, 3));
            due("its length", 12, () -> x.writeShelf(3));
        });
        promise(46, "Throws `IndexOutOfBoundsException` if there is no such shelf", x -> {
            dueThrow("no shelves at all", INDEX, () -> x.writeShelf(0));
            dueThrow("nothing was written", INDEX, () -> x.lineCharacter(0));
            Larders.addShelves(x, 5, 6);
            x.writeShelf(1);
            unchanged(x, () -> {
                dueThrow("too small", INDEX, () -> x.writeShelf(-1));
                dueThrow("too large", INDEX, () -> x.writeShelf(2));
                dueThrow("least int", INDEX, () -> x.writeShelf(LEAST));
                dueThrow("largest int", INDEX, () -> x.writeShelf(MOST));
            });
            dueText("the line is the one before", "1:6", Larders.line(x, 3));
            dueThrow("and no longer", INDEX, () -> x.lineCharacter(3));
        });
    }

    private static void promise46Longest() {
        promise(46, "\"m\" for each mouse on it, and for each neighbour, in ascending order, \"-\" and its index.", x -> {
            Larders.addShelves(x, 0, 0, 0, 0, 0, 0, 0, 0, 0, 0, 99, 0);
            for (int other = 11; other >= 0; other--) {
                if (other != 10) {
                    x.link(10, other);
                }
            }
            dueText("no mice and all neighbours", "10:99-0-1-2-3-4-5-6-7-8-9-11", Larders.shelfLine(x, 10));
            x.addStop(10);
            x.setBlind(10, true);
            for (int mouse = 0; mouse < 8; mouse++) {
                Larders.letMouseAppear(x, 10);
            }
            x.fill(10, 28);
            dueText("the longest line", "10:99bCmmmmmmmm-0-1-2-3-4-5-6-7-8-9-11", Larders.shelfLine(x, 10));
            due("its length", 38, () -> x.writeShelf(10));
            dueThrow("not one more", INDEX, () -> x.lineCharacter(38));
        });
    }

    private static void promise47() {
        promise(47, "The line of a patrol without stops is empty.", x -> {
            due("no shelves", 0, x::writePatrol);
            x.addShelf(5);
            x.writeShelf(0);
            due("no stops", 0, x::writePatrol);
            dueThrow("the line before is replaced", INDEX, () -> x.lineCharacter(0));
            x.addStop(0);
            due("one stop", 2, x::writePatrol);
            x.removeStop(0);
            due("none again", 0, x::writePatrol);
        });
        promise(47, "the shelves of the stops in their order, with a space between two, and \"*\" after the goal.", x -> {
            Larders.addShelves(x, new int[12]);
            Larders.linkInARow(x);
            Larders.addStops(x, 0, 11, 10, 11, 10, 11, 10, 11, 10, 11);
            dueText("the goal is the first of ten", "0* 11 10 11 10 11 10 11 10 11", Larders.patrolLine(x));
            x.pass(12 + 8 - 1);
            dueText("the goal is the last of ten", "0 11 10 11 10 11 10 11 10 11*", Larders.patrolLine(x));
            x.removeStop(9);
            x.removeStop(0);
            x.addStop(10);
            x.addStop(11);
            dueText("the longest line", "11* 10 11 10 11 10 11 10 10 11", Larders.patrolLine(x));
        });
        promise(47, "Example: \"0 3* 11\".", x -> {
            Larders.addShelves(x, new int[12]);
            Larders.addStops(x, 0, 3, 11);
            x.pass(1);
            dueText("the goal in the middle", "0 3* 11", Larders.patrolLine(x));
            due("its length", 7, x::writePatrol);
        });
    }

    private static void promise48() {
        promise(48, "Returns a character of the output line, which is initially empty.", x -> {
            dueThrow("no line was written", INDEX, () -> x.lineCharacter(0));
            x.addShelf(42);
            dueThrow("still none", INDEX, () -> x.lineCharacter(0));
            x.writeShelf(0);
            due("written", '0', () -> x.lineCharacter(0));
        });
        promise(48, "the index, from 0", x -> {
            x.addShelf(42);
            x.writeShelf(0);
            due("the first", '0', () -> x.lineCharacter(0));
            due("the second", ':', () -> x.lineCharacter(1));
            due("the last", 'C', () -> x.lineCharacter(4));
        });
        promise(48, "Throws `IndexOutOfBoundsException` if there is no such index", x -> {
            x.addShelf(42);
            x.writeShelf(0);
            unchanged(x, () -> {
                dueThrow("too small", INDEX, () -> x.lineCharacter(-1));
                dueThrow("too large", INDEX, () -> x.lineCharacter(5));
                dueThrow("least int", INDEX, () -> x.lineCharacter(LEAST));
                dueThrow("largest int", INDEX, () -> x.lineCharacter(MOST));
            });
            x.writePatrol();
            dueThrow("an empty line", INDEX, () -> x.lineCharacter(0));
        });
    }
}
