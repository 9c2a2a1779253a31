/** Boundary cases of the terms but for one minute: shelves, patrol, denials, texts, undo, exceptions. */
final class TermBoundaries extends Boundaries {
    private static final String NO_CAUSE = " throws.NoSuchElementException";

    private TermBoundaries() {
    }

    static void run() {
        shelves();
        shelvesAreNew();
        passages();
        distances();
        stops();
        catAndGoal();
        goalAfterRemoval();
        denialsInOrder();
        limits();
        denials2To5();
        denial6();
        latestDenial();
        textBuffer();
        grammar();
        everyCommand();
        numbersOfTexts();
        commands();
        faultPositions();
        changes();
        latestEightChanges();
        untouchedByUndo();
        untouchedBySnapshots();
        exceptionsOfShelves();
        exceptionsOfTheRest();
        firstDocumentedException();
    }

    private static void shelves() {
        term("At most 12 shelves exist, indexed from 0 in the order in which they were added.", x -> {
            for (int shelf = 0; shelf < 12; shelf++) {
                x.addShelf(10 + shelf);
            }
            dueThrow("a thirteenth", DENIED, () -> x.addShelf(22));
            for (int shelf = 0; shelf < 12; shelf++) {
                int index = shelf;
                due("in their order", 10 + index, () -> x.cheese(index));
            }
            dueThrow("there is no shelf 12", INDEX, () -> x.cheese(12));
        });
        term("A shelf has from 0 to 99 grams of cheese", x -> {
            Larders.addShelves(x, 99, 0, 1);
            dueThrow("never more", DENIED, () -> x.fill(0, 1));
            due("the most", 99, () -> x.cheese(0));
            Larders.letMouseAppear(x, 1);
            Larders.letMouseAppear(x, 2);
            x.pass(5);
            due("the least", 0, () -> x.cheese(1));
            due("eaten down to the least", 0, () -> x.cheese(2));
        });
    }

    private static void shelvesAreNew() {
        term("and is blind or not, initially not.", x -> {
            Larders.addShelves(x, 5, 6);
            x.setBlind(1, true);
            x.link(0, 1);
            for (int change = 0; change < 3; change++) {
                x.undo();
            }
            x.addShelf(7);
            dueTrue("not after a blind one was undone", !x.isBlind(1));
            due("nor has it that one's passage", 0, () -> x.neighbourCount(1));
            due("nor its cheese", 7, () -> x.cheese(1));
            Larders.addShelves(x, 0, 0, 0, 0, 0, 0, 0, 0, 0, 0);
            for (int shelf = 0; shelf < 12; shelf++) {
                dueTrue("none of all twelve", !x.isBlind(shelf));
            }
        });
    }

    private static void passages() {
        term("At most 20 passages connect shelves", x -> {
            Larders.addPassages(x, 20);
            due("twenty", 20, x::passageCount);
            dueThrow("one more", DENIED, () -> x.link(10, 11));
            due("it connects nothing", 2, () -> x.neighbourCount(10));
            x.unlink(0, 11);
            due("one of them cut", 20, () -> x.link(10, 11));
        });
        term("a passage connects two different shelves, and there is at most one between the same two.", x -> {
            Larders.addShelves(x, 0, 0);
            dueThrow("a shelf and itself", DENIED, () -> x.link(0, 0));
            due("it is no neighbour of its own", 0, () -> x.neighbourCount(0));
            x.link(0, 1);
            dueThrow("a second one", DENIED, () -> x.link(0, 1));
            dueThrow("a second one backwards", DENIED, () -> x.link(1, 0));
            due("one", 1, x::passageCount);
            due("none after one cut", 0, () -> x.unlink(1, 0));
        });
        term("Shelves that are connected by a passage are neighbours.", x -> {
            Larders.addShelves(x, 0, 0, 0);
            due("no passages", 0, () -> x.neighbourCount(1));
            Larders.linkInARow(x);
            due("both of the middle one", 2, () -> x.neighbourCount(1));
            due("two passages away is no neighbour", 1, () -> x.neighbourCount(0));
            x.unlink(0, 1);
            due("cut on the one side", 0, () -> x.neighbourCount(0));
            due("and on the other", 1, () -> x.neighbourCount(1));
        });
    }

    private static void distances() {
        term("The distance between two shelves is the least number of passages that lead from one to the other,"
            + " and 0 from a shelf to itself.", x -> {
            Larders.addShelves(x, new int[12]);
            due("a lone shelf to itself", 0, () -> x.distance(11, 11));
            due("by the table", 0, () -> x.distanceByTable(11, 11));
            Larders.linkInARow(x);
            due("the farthest", 11, () -> x.distance(11, 0));
            due("the farthest by the table", 11, () -> x.distanceByTable(11, 0));
            x.link(0, 2);
            due("one passage less", 10, () -> x.distance(0, 11));
            due("one passage less by the table", 10, () -> x.distanceByTable(0, 11));
            x.link(11, 0);
            due("one passage", 1, () -> x.distance(0, 11));
            due("one passage by the table", 1, () -> x.distanceByTable(0, 11));
            due("to itself in a ring", 0, () -> x.distance(0, 0));
        });
    }

    private static void stops() {
        term("The patrol has at most 10 stops, numbered from 0 in their order", x -> {
            Larders.addShelves(x, new int[12]);
            Larders.addStops(x, 11, 10, 9, 8, 7, 6, 5, 4, 3, 2);
            dueThrow("an eleventh", DENIED, () -> x.addStop(1));
            for (int stop = 0; stop < 10; stop++) {
                int number = stop;
                due("in their order", 11 - number, () -> x.shelfOfStop(number));
            }
            dueThrow("there is no stop 10", INDEX, () -> x.shelfOfStop(10));
        });
        term("each is a shelf, and a shelf can be a stop more than once.", x -> {
            x.addShelf(0);
            dueThrow("what is no shelf", INDEX, () -> x.addStop(1));
            Larders.addStops(x, new int[10]);
            due("ten times", 10, x::stopCount);
            due("the tenth", 0, () -> x.shelfOfStop(9));
        });
    }

    private static void catAndGoal() {
        term("The cat is on a shelf, initially on shelf 0 as soon as there is one", x -> {
            dueThrow("no shelf yet", NO_ELEMENT, x::catShelf);
            x.pass(60);
            x.addShelf(0);
            due("the first", 0, x::catShelf);
            Larders.addShelves(x, new int[11]);
            due("and no other", 0, x::catShelf);
            x.link(0, 11);
            x.addStop(11);
            x.pass(1);
            due("it can walk to the last", 11, x::catShelf);
        });
        term("and has a goal, which is the number of a stop, initially 0.", x -> {
            Larders.addShelves(x, 0, 0);
            dueThrow("no stops", NO_ELEMENT, x::goal);
            x.addStop(1);
            due("the first stop", 0, x::goal);
            x.addStop(0);
            due("not the last one added", 0, x::goal);
        });
    }

    private static void goalAfterRemoval() {
        term("When a stop with a smaller number than the goal is removed, the goal decreases by 1", x -> {
            x.addShelf(0);
            Larders.addStops(x, new int[10]);
            x.pass(9);
            due("the last of ten", 9, x::goal);
            x.removeStop(8);
            due("the number just below it", 8, x::goal);
            x.removeStop(0);
            due("the least number", 7, x::goal);
            x.addStop(0);
            x.removeStop(8);
            due("the number just above it leaves it", 7, x::goal);
            for (int goal = 6; goal >= 0; goal--) {
                int left = goal;
                x.removeStop(0);
                due("down to 0", left, x::goal);
            }
        });
        term("when the goal itself is removed, the goal is the stop that has its number then, or stop 0 if there is none.", x -> {
            Larders.addShelves(x, 0, 0, 0);
            Larders.addStops(x, 0, 0, 1, 2);
            x.pass(2);
            due("before", 2, x::goal);
            x.removeStop(2);
            due("its number", 2, x::goal);
            due("which the last stop has now", 2, () -> x.shelfOfStop(2));
            x.removeStop(2);
            due("the last stop: none has its number", 0, x::goal);
            x.removeStop(0);
            due("goal 0 of two", 0, x::goal);
            x.removeStop(0);
            dueThrow("the only stop", NO_ELEMENT, x::goal);
            x.addStop(2);
            due("the first one again", 0, x::goal);
        });
    }

    private static void denialsInOrder() {
        term("Each method lists its possible denials in the order in which they are checked.", x -> {
            Larders.addPassages(x, 20);
            dueThrow("the same shelf, and full", DENIED, () -> x.link(11, 11));
            due("2 before 1", 2, x::denial);
            dueThrow("connected, and full", DENIED, () -> x.link(11, 0));
            due("3 before 1", 3, x::denial);
            dueThrow("only full", DENIED, () -> x.link(11, 10));
            due("1", 1, x::denial);
        });
        term("Some calls are denied for a reason, which has a number and a detail.", x -> {
            x.addShelf(0);
            dueThrow("denied", DENIED, () -> x.setBlind(0, false));
            due("its number", 5, x::denial);
            due("its detail", 0, x::denialDetail);
        });
    }

    private static void limits() {
        term("Denial 1: a limit is reached; the detail is the limit.", x -> {
            Larders.addPassages(x, 20);
            Larders.addStops(x, new int[10]);
            x.fill(0, 99);
            dueThrow("shelves", DENIED, () -> x.addShelf(0));
            dueText("12 of them", "1 12" + NO_CAUSE, Larders.denialOf(x));
            dueThrow("passages", DENIED, () -> x.link(10, 11));
            dueText("20 of them", "1 20" + NO_CAUSE, Larders.denialOf(x));
            dueThrow("grams", DENIED, () -> x.fill(0, 1));
            dueText("99 of them", "1 99" + NO_CAUSE, Larders.denialOf(x));
            dueThrow("stops", DENIED, () -> x.addStop(0));
            dueText("10 of them", "1 10" + NO_CAUSE, Larders.denialOf(x));
            due("8 mice are no denial", 0, () -> x.pass(60) * 0);
            dueText("and none of a minute is", "1 10" + NO_CAUSE, Larders.denialOf(x));
        });
    }

    private static void denials2To5() {
        term("Denial 2: both shelves are the same; the detail is the index of the shelf.", x -> {
            Larders.addShelves(x, new int[12]);
            denied("the first", x, 2, 0, () -> x.link(0, 0));
            denied("the last", x, 2, 11, () -> x.link(11, 11));
        });
        term("Denial 3: the shelves are connected; the detail is the number of passages.", x -> {
            Larders.addShelves(x, 0, 0, 0);
            x.link(0, 1);
            denied("the only passage", x, 3, 1, () -> x.link(0, 1));
            x.link(2, 1);
            denied("one of two, backwards", x, 3, 2, () -> x.link(1, 0));
        });
        term("Denial 4: the shelves are not connected by a passage; the detail is the number of passages.", x -> {
            Larders.addShelves(x, 0, 0, 0);
            denied("no passages", x, 4, 0, () -> x.unlink(2, 0));
            Larders.linkInARow(x);
            denied("only by a way of two", x, 4, 2, () -> x.unlink(2, 0));
        });
        term("Denial 5: the value is the present one; the detail is this value, 1 for true and 0 for false.", x -> {
            Larders.addShelves(x, 0, 0);
            denied("false", x, 5, 0, () -> x.setBlind(1, false));
            x.setBlind(1, true);
            denied("true", x, 5, 1, () -> x.setBlind(1, true));
            denied("false of another shelf", x, 5, 0, () -> x.setBlind(0, false));
        });
    }

    private static void denial6() {
        term("Denial 6: a command of a text failed; the detail is the index of the command, from 0.", x -> {
            dueThrow("the only one", DENIED, () -> Larders.execute(x, "hide 0"));
            dueText("0", "6 0 7", Larders.denialOf(x));
            dueThrow("the second of three", DENIED, () -> Larders.execute(x, "shelf 1;show 0;show 0"));
            dueText("1", "6 1 5", Larders.denialOf(x));
            dueThrow("the last of eight", DENIED, () -> Larders.execute(x, "seed 1;seed 2;seed 3;seed 4;seed 5;seed 6;seed 7;drop 0"));
            dueText("7", "6 7 7", Larders.denialOf(x));
        });
        term("Only denial 6 has a cause", x -> {
            Larders.addShelves(x, 99, 0);
            x.link(0, 1);
            dueThrow("a limit", DENIED, () -> x.fill(0, 1));
            dueThrow("1 has none", NO_ELEMENT, x::denialCause);
            dueThrow("the same", DENIED, () -> x.link(0, 0));
            dueThrow("2 has none", NO_ELEMENT, x::denialCause);
            dueThrow("connected", DENIED, () -> x.link(0, 1));
            dueThrow("3 has none", NO_ELEMENT, x::denialCause);
            dueThrow("not connected", DENIED, () -> x.unlink(0, 0));
            dueThrow("4 has none", NO_ELEMENT, x::denialCause);
            dueThrow("present value", DENIED, () -> x.setBlind(0, false));
            dueThrow("5 has none", NO_ELEMENT, x::denialCause);
            dueThrow("a text", DENIED, () -> Larders.execute(x, "fill 0 1"));
            due("6 has one", 1, x::denialCause);
        });
        term("the denial of the failed command with its detail, or denial 7 with detail 0 if the command failed with"
            + " an exception other than UnsupportedOperationException.", x -> {
            Larders.addShelves(x, 99, 0);
            dueThrow("a denied command", DENIED, () -> Larders.execute(x, "fill 0 99"));
            dueText("its denial, the index of the command", "6 0 1", Larders.denialOf(x));
            dueThrow("a value out of range", DENIED, () -> Larders.execute(x, "fill 1 1;fill 0 0"));
            dueText("an exception", "6 1 7", Larders.denialOf(x));
            dueThrow("an index out of range", DENIED, () -> Larders.execute(x, "fill 2 99"));
            dueText("another exception", "6 0 7", Larders.denialOf(x));
        });
    }

    private static void latestDenial() {
        term("The number, the detail and the cause of the latest denial are kept until the next denial.", x -> {
            x.addShelf(0);
            dueThrow("a text", DENIED, () -> Larders.execute(x, "wait 1;show 0"));
            x.addShelf(0);
            dueThrow("an index", INDEX, () -> x.link(0, 2));
            dueThrow("a range", ARGUMENT, () -> x.setRate(17));
            dueThrow("a fault", ARGUMENT, () -> Larders.execute(x, ""));
            due("a good text", 1, () -> Larders.execute(x, "link 0-1"));
            dueText("kept", "6 1 5", Larders.denialOf(x));
            dueThrow("the next denial", DENIED, () -> x.link(0, 1));
            dueText("number, detail and cause are the next one's", "3 1" + NO_CAUSE, Larders.denialOf(x));
        });
    }

    private static void textBuffer() {
        term("The text buffer holds at most 60 characters.", x -> {
            x.addShelf(0);
            String sixty = "fill 00 10;fill 00 10;fill 00 10;fill 00 10;fill 0 10;wait 6";
            Larders.feedAll(x, sixty);
            dueThrow("one more", STATE, () -> x.feed('0'));
            due("all sixty are read", 6, x::execute);
            due("wait 6 was not wait 60", 6, x::minute);
            due("grams", 50, () -> x.totalCheeseByAccounts() + x.eaten());
            Larders.feedAll(x, sixty.substring(0, 59) + ";");
            due("all sixty are read for a fault", 59, () -> faultOf(x, ""));
        });
    }

    /** The fault position after the text, which does not match. */
    private static int faultOf(LarderPatrol x, String text) {
        dueThrow("no match: " + text, ARGUMENT, () -> Larders.execute(x, text));
        return x.faultPosition();
    }

    private static void dueFault(LarderPatrol x, int position, String text) {
        due("fault in " + text, position, () -> faultOf(x, text));
    }

    private static void grammar() {
        term("A text matches this grammar, with terminals in double quotes; a space in a terminal is exactly one space", x -> {
            x.addShelf(0);
            due("one", 1, () -> Larders.execute(x, "fill 0 9"));
            dueFault(x, 4, "fill0 9");
            dueFault(x, 5, "fill  0 9");
            dueFault(x, 7, "fill 09");
            dueFault(x, 7, "fill 0  9");
            dueFault(x, 4, "fill\t0 9");
            dueFault(x, 0, " fill 0 9");
            dueFault(x, 8, "fill 0 9 ");
            dueFault(x, 9, "fill 0 9; hide 0");
            dueFault(x, 8, "fill 0 9 ;hide 0");
        });
        term("text: command { \";\" command }", x -> {
            due("one command", 1, () -> Larders.execute(x, "shelf 0"));
            due("eight commands", 8, () -> Larders.execute(x, "hide 0;show 0;hide 0;show 0;hide 0;show 0;hide 0;show 0"));
            dueFault(x, 0, "");
            dueFault(x, 0, ";");
            dueFault(x, 0, ";hide 0");
            dueFault(x, 7, "hide 0;");
            dueFault(x, 7, "hide 0;;show 0");
            dueFault(x, 6, "hide 0,show 0");
            dueFault(x, 6, "hide 0\nshow 0");
            dueFault(x, 56, "hide 0;show 0;hide 0;show 0;hide 0;show 0;hide 0;show 0;");
        });
    }

    private static void everyCommand() {
        everySign("\"shelf \" number", "shelf 1");
        everySign("\"link \" number \"-\" number", "link 1-2");
        everySign("\"cut \" number \"-\" number", "cut 1-2");
        everySign("\"hide \" number", "hide 1");
        everySign("\"show \" number", "show 1");
        everySign("\"fill \" number \" \" number", "fill 1 2");
        everySign("\"stop \" number", "stop 1");
        everySign("\"drop \" digit", "drop 1");
        everySign("\"rate \" number", "rate 1");
        everySign("\"seed \" long", "seed 1");
        everySign("\"wait \" number", "wait 1");
    }

    /** The shortest text of a command matches; cut short, or with another sign anywhere, it does not. */
    private static void everySign(String alternative, String shortest) {
        term(alternative, x -> {
            for (int length = 0; length < shortest.length(); length++) {
                dueFault(x, length, shortest.substring(0, length));
                dueFault(x, length, shortest.substring(0, length) + "?" + shortest.substring(length + 1));
            }
            dueFault(x, shortest.length() + 1, shortest + ";");
            String answer = Checks.answerOf(() -> Larders.execute(x, shortest));
            dueTrue("a match, done or denied", !answer.equals("throws.IllegalArgumentException"));
        });
    }

    private static void numbersOfTexts() {
        term("number: one or two digits; long: one to four digits", x -> {
            due("one and two digits", 3, () -> Larders.execute(x, "shelf 0;shelf 09;shelf 99"));
            due("two digits, the first of them 0", 9, () -> x.cheese(1));
            due("the largest number", 99, () -> x.cheese(2));
            dueFault(x, 8, "shelf 001");
            dueFault(x, 6, "shelf ");
            dueFault(x, 6, "shelf -1");
            dueFault(x, 6, "shelf +1");
            dueFault(x, 8, "shelf 100");
            due("long: one digit and four", 2, () -> Larders.execute(x, "seed 9;seed 1023"));
            due("the largest seed", 1023, x::seed);
            due("long: four digits, three of them 0", 1, () -> Larders.execute(x, "seed 0007"));
            due("the small seed", 7, x::seed);
            dueThrow("the least four digits that are no seed", DENIED, () -> Larders.execute(x, "seed 1024"));
            dueThrow("the largest four digits", DENIED, () -> Larders.execute(x, "seed 9999"));
            dueFault(x, 9, "seed 00001");
            dueFault(x, 5, "seed ");
            x.addStop(2);
            dueFault(x, 6, "drop 00");
            dueFault(x, 5, "drop ;");
            due("one digit", 1, () -> Larders.execute(x, "drop 0"));
            due("the signs beside the digits are none", 5, () -> faultOf(x, "rate /"));
            due("on both sides", 5, () -> faultOf(x, "rate :"));
        });
    }

    private static void commands() {
        term("The commands correspond to the methods addShelf, link, unlink, setBlind (with true for \"hide\" and false for"
            + " \"show\"), fill, addStop, removeStop, setRate, setSeed and pass, with the parameters in the same order.", x -> {
            Larders.addShelves(x, 0, 0, 0, 0, 0, 0, 0, 0, 0, 0, 0);
            Larders.execute(x, "shelf 99;link 0-11;link 11-1;cut 11-0;hide 11");
            due("shelf", 99, () -> x.cheese(11));
            due("link and cut", 1, () -> x.distance(1, 11));
            due("cut", 1, x::passageCount);
            dueTrue("hide", x.isBlind(11));
            Larders.execute(x, "show 11;fill 3 9;stop 2;stop 11;drop 0");
            dueTrue("show", !x.isBlind(11));
            due("fill: first the shelf", 9, () -> x.cheese(3));
            due("fill: then the grams", 0, () -> x.cheese(9));
            due("stop and drop", 11, () -> x.shelfOfStop(0));
            Larders.execute(x, "rate 0;seed 0;wait 60");
            due("wait", 60, x::minute);
            due("rate", 0, () -> x.setRate(0));
            dueThrow("the least that a command takes", DENIED, () -> Larders.execute(x, "wait 0"));
            dueThrow("one more than the most", DENIED, () -> Larders.execute(x, "wait 61"));
        });
    }

    private static void faultPositions() {
        term("The fault position of a text is the index of the first character that cannot continue any such text,"
            + " or the length of the text if it ends too early.", x -> {
            dueFault(x, 0, "Shelf 1");
            dueFault(x, 1, "sa");
            dueFault(x, 3, "sho1");
            dueFault(x, 3, "sho");
            dueFault(x, 3, "shox");
            dueFault(x, 1, "s");
            dueFault(x, 4, "wait");
            dueFault(x, 6, "link 1");
            dueFault(x, 7, "link 1-");
            dueFault(x, 9, "link 1-23-");
            dueFault(x, 6, "wait 1x");
            dueFault(x, 7, "wait 12x");
            dueFault(x, 7, "wait 12" + (char) 0);
            dueFault(x, 6, "wait 1" + (char) ('0' + 256));
            dueFault(x, 59, "wait 1;wait 1;wait 1;wait 1;wait 1;wait 1;wait 1;wait 1;waix");
            dueFault(x, 60, "fill 00 10;fill 00 10;fill 00 10;fill 00 10;fill 00 10;shelf");
            dueFault(x, 0, "");
        });
    }

    private static void changes() {
        term("The calls of the methods to which commands correspond, and of execute, that do not throw an exception"
            + " are the changes.", x -> {
            Larders.addShelves(x, 1, 2);
            due("two", 2, x::undoCount);
            dueThrow("out of range", ARGUMENT, () -> x.addShelf(-1));
            dueThrow("denied", DENIED, () -> x.setBlind(0, false));
            dueThrow("a fault", ARGUMENT, x::execute);
            dueThrow("a text that fails in its second command", DENIED, () -> Larders.execute(x, "wait 1;show 0"));
            x.feed('r');
            x.predictCaught(1);
            x.writePatrol();
            x.saveSnapshot();
            due("no more", 2, x::undoCount);
            Larders.execute(x, "ate 4;rate 4;seed 0");
            due("a text of three commands is one", 3, x::undoCount);
            x.setRate(4);
            due("a call that alters nothing is one", 4, x::undoCount);
            x.undo();
            due("to undo is none", 3, x::undoCount);
        });
    }

    private static void latestEightChanges() {
        term("The latest 8 changes can be undone; older ones are forgotten.", x -> {
            Larders.addShelves(x, 0, 0, 0, 0, 0, 0, 0, 0, 0);
            for (int shelves = 8; shelves >= 1; shelves--) {
                int left = shelves;
                due("the latest eight of nine", left - 1, x::undo);
                due("shelves", left, x::shelfCount);
            }
            dueThrow("the first is forgotten", STATE, x::undo);
            due("it stays", 1, x::shelfCount);
            for (int change = 0; change < 8; change++) {
                x.setSeed(100 + change);
            }
            for (int change = 0; change < 8; change++) {
                x.undo();
            }
            due("just eight", 0, x::seed);
            dueThrow("and no ninth", STATE, x::undo);
        });
    }

    private static void untouchedByUndo() {
        term("The text buffer, the fault position, the output line and the latest denial are affected neither by undo", x -> {
            x.addShelf(42);
            due("fault", 2, () -> faultOf(x, "ra"));
            dueThrow("denial", DENIED, () -> Larders.execute(x, "rate 9;show 0"));
            x.writeShelf(0);
            Larders.feedAll(x, "rate ");
            x.undo();
            due("fault position", 2, x::faultPosition);
            dueText("latest denial", "6 1 5", Larders.denialOf(x));
            dueText("output line of a shelf that is gone", "0:42C", Larders.line(x, 5));
            due("text buffer", 6, () -> x.feed('9'));
            due("which is read", 1, x::execute);
            x.undo();
            due("a text that was undone is not fed again", 1, () -> x.feed('s'));
        });
    }

    private static void untouchedBySnapshots() {
        term("are affected neither by undo nor by snapshots.", x -> {
            x.saveSnapshot();
            x.addShelf(42);
            due("fault", 2, () -> faultOf(x, "ra"));
            dueThrow("denial", DENIED, () -> x.setBlind(0, false));
            x.writeShelf(0);
            Larders.feedAll(x, "rate ");
            x.restoreSnapshot();
            due("fault position", 2, x::faultPosition);
            dueText("latest denial", "5 0" + NO_CAUSE, Larders.denialOf(x));
            dueText("output line of a shelf that is gone", "0:42C", Larders.line(x, 5));
            due("text buffer", 6, () -> x.feed('9'));
            x.saveSnapshot();
            due("saving leaves it too", 1, x::execute);
            x.restoreSnapshot();
            due("nor does the buffer come back", 1, () -> x.feed('s'));
        });
    }

    /** Three shelves in a row, the last one blind, a mouse, two stops, a fault, a denial and an output line. */
    private static void prepare(LarderPatrol x) {
        Larders.addShelves(x, 99, 9, 9);
        Larders.linkInARow(x);
        x.setBlind(2, true);
        Larders.addStops(x, 1, 0);
        Larders.letMouseAppear(x, 2);
        x.writePatrol();
        faultOf(x, "rat");
        dueThrow("a denial", DENIED, () -> Larders.execute(x, "hide 2"));
    }

    private static void exceptionsOfShelves() {
        term("A method that throws an exception does not change the state, unless its documentation says otherwise.", x -> {
            prepare(x);
            unchanged(x, () -> {
                dueThrow("addShelf", ARGUMENT, () -> x.addShelf(100));
                dueThrow("link", INDEX, () -> x.link(0, 3));
                dueThrow("unlink", INDEX, () -> x.unlink(3, 0));
                dueThrow("setBlind", INDEX, () -> x.setBlind(3, true));
                dueThrow("fill", INDEX, () -> x.fill(3, 1));
                dueThrow("fill's grams", ARGUMENT, () -> x.fill(1, 0));
                dueThrow("cheese", INDEX, () -> x.cheese(3));
                dueThrow("isBlind", INDEX, () -> x.isBlind(3) ? 1 : 0);
                dueThrow("neighbourCount", INDEX, () -> x.neighbourCount(3));
                dueThrow("distance", INDEX, () -> x.distance(0, 3));
                dueThrow("distanceByTable", INDEX, () -> x.distanceByTable(3, 0));
                dueThrow("shelfByCheese", NO_ELEMENT, () -> x.shelfByCheese(3));
                dueThrow("addStop", INDEX, () -> x.addStop(3));
                dueThrow("removeStop", INDEX, () -> x.removeStop(2));
                dueThrow("shelfOfStop", INDEX, () -> x.shelfOfStop(2));
            });
            denied("link's denial", x, 2, 1, () -> x.link(1, 1));
            denied("unlink's denial", x, 4, 2, () -> x.unlink(0, 2));
            denied("setBlind's denial", x, 5, 1, () -> x.setBlind(2, true));
            denied("fill's denial", x, 1, 99, () -> x.fill(0, 1));
        });
    }

    private static void exceptionsOfTheRest() {
        term("A method that throws an exception does not change the state", x -> {
            prepare(x);
            unchanged(x, () -> {
                dueThrow("pass", ARGUMENT, () -> x.pass(0));
                dueThrow("predictCaught", ARGUMENT, () -> x.predictCaught(61));
                dueThrow("setRate", ARGUMENT, () -> x.setRate(17));
                dueThrow("setSeed", ARGUMENT, () -> x.setSeed(1024));
                dueThrow("mouseShelf", INDEX, () -> x.mouseShelf(1));
                dueThrow("mouseEaten", INDEX, () -> x.mouseEaten(1));
                dueThrow("mouseHunger", INDEX, () -> x.mouseHunger(1));
                dueThrow("miceOn", INDEX, () -> x.miceOn(3));
                dueThrow("caughtShare", ARITHMETIC, () -> (long) x.caughtShare());
                dueThrow("writeShelf", INDEX, () -> x.writeShelf(3));
                dueThrow("lineCharacter", INDEX, () -> x.lineCharacter(99));
                dueThrow("restoreSnapshot", STATE, x::restoreSnapshot);
                due("execute keeps its fault position, the same one", 3, () -> faultOf(x, "ratio"));
                dueThrow("execute keeps its denial, the same one", DENIED, () -> Larders.execute(x, "hide 2;rate 3"));
            });
            due("the rate", 0, () -> x.setRate(0));
        });
    }

    private static void firstDocumentedException() {
        term("If the conditions of several exceptions hold, the one that is documented first is thrown.", x -> {
            Larders.addPassages(x, 20);
            x.unlink(0, 11);
            x.link(2, 3);
            Larders.addStops(x, new int[10]);
            x.fill(0, 99);
            dueThrow("addShelf: range before 12 shelves", ARGUMENT, () -> x.addShelf(100));
            dueThrow("link: no such shelf before the same", INDEX, () -> x.link(12, 12));
            dueThrow("link: no such shelf before 20 passages", INDEX, () -> x.link(0, 12));
            dueThrow("unlink: no such shelf before not connected", INDEX, () -> x.unlink(12, 12));
            dueThrow("setBlind: no such shelf before the present value", INDEX, () -> x.setBlind(12, false));
            dueThrow("fill: no such shelf before the grams", INDEX, () -> x.fill(12, 100));
            dueThrow("fill: the grams before a full shelf", ARGUMENT, () -> x.fill(0, 100));
            dueThrow("distance: no such shelf before no way", INDEX, () -> x.distance(11, 12));
            dueThrow("distanceByTable: no such shelf before no way", INDEX, () -> x.distanceByTable(12, 11));
            dueThrow("addStop: no such shelf before 10 stops", INDEX, () -> x.addStop(12));
            dueThrow("none of them is a denial", NO_ELEMENT, x::denial);
            dueThrow("execute: no match before a command that is denied", ARGUMENT, () -> Larders.execute(x, "show 0;show"));
            dueThrow("nor is this", NO_ELEMENT, x::denial);
        });
    }
}
