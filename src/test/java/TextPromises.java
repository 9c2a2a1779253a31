/** Promises 43 to 48. */
final class TextPromises {
    private static final Class<IndexOutOfBoundsException> INDEX = IndexOutOfBoundsException.class;
    private static final Class<IllegalArgumentException> ARGUMENT = IllegalArgumentException.class;
    private static final Class<UnsupportedOperationException> DENIED = UnsupportedOperationException.class;
    private static final Class<java.util.NoSuchElementException> NO_ELEMENT = java.util.NoSuchElementException.class;

    private TextPromises() {
    }

    static void run() {
        promise43Feed();
        promise44EveryCommand();
        promise44AllOrNone();
        promise44BufferAfterwards();
        promise44LongestText();
        promise45FaultPositions();
        promise45KeptLast();
        promise46WriteShelf();
        promise47WritePatrol();
        promise48LineCharacter();
    }

    private static void promise43Feed() {
        LarderPatrol x = new LarderPatrol();
        for (int length = 1; length <= 60; length++) {
            char sign = (char) (length * 1000);
            Checks.due("43 length", length, () -> x.feed(sign));
        }
        Checks.dueThrow("43 full", IllegalStateException.class, () -> x.feed('s'));
        Checks.dueThrow("43 still full", IllegalStateException.class, () -> x.feed((char) 0));
        Checks.dueThrow("43 any sign was taken", ARGUMENT, x::execute);
        Checks.due("43 room again", 1, () -> x.feed('s'));
    }

    private static void promise44EveryCommand() {
        LarderPatrol x = new LarderPatrol();
        Checks.due("44 shelf", 3, () -> Larders.execute(x, "shelf 7;shelf 05;shelf 99"));
        Checks.due("44 cheese", 5, () -> x.cheese(1));
        Checks.due("44 link", 2, () -> Larders.execute(x, "link 0-1;link 2-01"));
        Checks.due("44 passages", 2, x::passageCount);
        Checks.due("44 cut", 1, () -> Larders.execute(x, "cut 1-0"));
        Checks.due("44 passage", 1, x::passageCount);
        Checks.due("44 hide", 2, () -> Larders.execute(x, "hide 1;hide 2"));
        Checks.dueTrue("44 hidden", x.isBlind(1) && x.isBlind(2));
        Checks.due("44 show", 1, () -> Larders.execute(x, "show 2"));
        Checks.dueTrue("44 shown", x.isBlind(1) && !x.isBlind(2));
        Checks.due("44 fill", 1, () -> Larders.execute(x, "fill 0 10"));
        Checks.due("44 filled", 17, () -> x.cheese(0));
        Checks.due("44 stop", 3, () -> Larders.execute(x, "stop 2;stop 1;stop 00"));
        Checks.dueText("44 stops", "2* 1 0", Larders.patrolLine(x));
        Checks.due("44 drop", 1, () -> Larders.execute(x, "drop 1"));
        Checks.dueText("44 dropped", "2* 0", Larders.patrolLine(x));
        Checks.due("44 rate", 1, () -> Larders.execute(x, "rate 16"));
        Checks.due("44 rate before", 16, () -> x.setRate(0));
        Checks.due("44 seed", 1, () -> Larders.execute(x, "seed 1023"));
        Checks.due("44 seed set", 1023, x::seed);
        Checks.due("44 seed with noughts", 1, () -> Larders.execute(x, "seed 0012"));
        Checks.due("44 seed 12", 12, x::seed);
        Checks.due("44 wait", 2, () -> Larders.execute(x, "wait 60;wait 1"));
        Checks.due("44 waited", 61, x::minute);
    }

    private static void promise44AllOrNone() {
        LarderPatrol x = Larders.inARow(5, 5);
        Checks.dueThrow("44 the last one fails", DENIED, () -> Larders.execute(x, "shelf 1;wait 3;stop 1;rate 2;hide 0;link 1-0"));
        Checks.dueText("44 denial 6", "6 5 3", Larders.denialOf(x));
        Checks.due("44 no shelf", 2, x::shelfCount);
        Checks.due("44 no minute", 0, x::minute);
        Checks.due("44 no stop", 0, x::stopCount);
        Checks.dueTrue("44 not hidden", !x.isBlind(0));
        Checks.due("44 no change", 3, x::undoCount);
        Checks.due("44 rate stays", 4, () -> x.setRate(4));
        Checks.dueThrow("44 stops at the first", DENIED, () -> Larders.execute(x, "hide 1;show 0;stop 9"));
        Checks.dueText("44 the first counts", "6 1 5", Larders.denialOf(x));
        Checks.dueThrow("44 later sees earlier", DENIED, () -> Larders.execute(x, "hide 1;hide 1"));
        Checks.due("44 works on what was done", 2, () -> Larders.execute(x, "hide 1;show 1"));
    }

    private static void promise44BufferAfterwards() {
        LarderPatrol x = new LarderPatrol();
        Checks.due("44 done", 1, () -> Larders.execute(x, "shelf 1"));
        Checks.due("44 empty after success", 1, () -> x.feed('x'));
        Checks.dueThrow("44 no match", ARGUMENT, x::execute);
        Checks.due("44 empty after a fault", 1, () -> x.feed('s'));
        Checks.dueThrow("44 denied", DENIED, () -> Larders.execute(x, "top 1"));
        Checks.due("44 empty after a denial", 1, () -> x.feed('s'));
        Checks.dueThrow("44 ends too early", ARGUMENT, x::execute);
        Checks.dueThrow("44 empty text", ARGUMENT, x::execute);
        Checks.due("45 empty text", 0, x::faultPosition);
    }

    private static void promise44LongestText() {
        LarderPatrol x = Larders.withCheese(0);
        String eight = "hide 0;show 0;hide 0;show 0;hide 0;show 0;hide 00;show 00";
        Checks.due("44 eight commands", 8, () -> Larders.execute(x, eight));
        String sixty = "fill 0 01;fill 00 1;fill 00 02;fill 00 03;fill 0 04;wait 001".substring(0, 60);
        Checks.due("44 sixty signs", 60, () -> sixty.length());
        Checks.dueThrow("44 a third digit", ARGUMENT, () -> Larders.execute(x, sixty));
        Checks.due("45 the third digit", 59, x::faultPosition);
        String full = "fill 00 10;fill 00 10;fill 00 10;fill 00 10;fill 0 10;wait 1";
        Checks.due("44 sixty signs, full", 60, () -> full.length());
        Checks.due("44 sixty signs, all done", 6, () -> Larders.execute(x, full));
        Checks.due("44 filled", 50, x::totalCheese);
    }

    private static void fault(String text, int position) {
        LarderPatrol x = Larders.withCheese(0, 0);
        Checks.dueThrow("45 '" + text + "'", ARGUMENT, () -> Larders.execute(x, text));
        Checks.due("45 position in '" + text + "'", position, x::faultPosition);
    }

    private static void promise45FaultPositions() {
        fault("", 0);
        fault("x", 0);
        fault(" shelf 1", 0);
        fault(";", 0);
        fault("S", 0);
        fault("s", 1);
        fault("sx", 1);
        fault("sh", 2);
        fault("shx", 2);
        fault("she", 3);
        fault("shof", 3);
        fault("sto1", 3);
        fault("sek", 2);
        fault("shelf", 5);
        fault("shelf1", 5);
        fault("shelf ", 6);
        fault("shelf  1", 6);
        fault("shelf x", 6);
        fault("shelf N", 6);
        fault("shelf -1", 6);
        fault("shelf 1 ", 7);
        fault("shelf 123", 8);
        fault("shelf 12;", 9);
        fault("shelf 12; shelf 1", 9);
        fault("shelf 12;;", 9);
        fault("shelf 12,", 8);
        fault("link 1", 6);
        fault("link 1;", 6);
        fault("link 1 2", 6);
        fault("link 12", 7);
        fault("link 123-1", 7);
        fault("link 1-", 7);
        fault("link 1--1", 7);
        fault("link 1-123", 9);
        fault("link 1-1-1", 8);
        fault("cut 1", 5);
        fault("cat", 1);
        fault("fill 1-1", 6);
        fault("fill 1", 6);
        fault("fill 1 ", 7);
        fault("fill 1  2", 7);
        fault("drop 12", 6);
        fault("drop ", 5);
        fault("drop D", 5);
        fault("seed 12345", 9);
        fault("seed ", 5);
        fault("rate 100", 7);
        fault("wait 1;wait", 11);
        fault("wait 1;w4", 8);
        fault("wait 1\u0000", 6);
        fault("wait 1\n", 6);
        fault("\u0000", 0);
        fault("wait \u0661", 5);
        fault("wait \u0131", 5);
        fault("wait 1;hide 2;show 3;fill 4 5;stop 6;drop 7;rate 8;seed 9;cx", 59);
    }

    private static void promise45KeptLast() {
        LarderPatrol x = Larders.withCheese(0);
        Checks.dueThrow("45 none yet", NO_ELEMENT, x::faultPosition);
        Larders.execute(x, "hide 0");
        Checks.dueThrow("45 none after a good text", NO_ELEMENT, x::faultPosition);
        Checks.dueThrow("45 none after a denial", DENIED, () -> Larders.execute(x, "hide 0"));
        Checks.dueThrow("45 none still", NO_ELEMENT, x::faultPosition);
        Checks.dueThrow("45 first fault", ARGUMENT, () -> Larders.execute(x, "hi"));
        Checks.due("45 first position", 2, x::faultPosition);
        Larders.execute(x, "show 0");
        Checks.due("45 stays after a good text", 2, x::faultPosition);
        Checks.dueThrow("45 second fault", ARGUMENT, () -> Larders.execute(x, "q"));
        Checks.due("45 replaced", 0, x::faultPosition);
        Checks.dueText("45 a fault is no denial", "6 0 5", Larders.denialOf(x));
        x.undo();
        Checks.due("45 stays after undo", 0, x::faultPosition);
    }

    private static void promise46WriteShelf() {
        LarderPatrol x = Larders.withCheese(9, 0, 0, 22, 5, 5, 5, 5, 5, 5, 10, 99);
        x.link(4, 3);
        x.link(3, 0);
        x.addStop(3);
        x.setRate(0);
        x.pass(1);
        x.setBlind(3, true);
        Larders.letMouseAppear(x, 3);
        Larders.letMouseAppear(x, 3);
        x.fill(3, 1);
        x.removeStop(0);
        x.pass(1);
        Checks.dueText("46 the document's example", "3:20bCmm-0-4", Larders.shelfLine(x, 3));
        Checks.due("46 its length", 12, () -> x.writeShelf(3));
        Checks.dueText("46 plain", "1:0", Larders.shelfLine(x, 1));
        Checks.dueText("46 two digits", "11:99", Larders.shelfLine(x, 11));
        x.setBlind(10, true);
        x.link(10, 2);
        x.link(10, 11);
        Checks.dueText("46 blind", "10:10b-2-11", Larders.shelfLine(x, 10));
        Checks.dueText("46 one neighbour", "0:9-3", Larders.shelfLine(x, 0));
        Checks.dueThrow("46 below", INDEX, () -> x.writeShelf(-1));
        Checks.dueThrow("46 above", INDEX, () -> x.writeShelf(12));
        Checks.due("46 the line stays", '9', () -> x.lineCharacter(2));
        longestShelfLine();
    }

    private static void longestShelfLine() {
        LarderPatrol x = Larders.withPassages(11);
        x.fill(0, 99);
        x.setBlind(0, true);
        x.setRate(16);
        for (int mouse = 0; mouse < 8; mouse++) {
            x.setSeed(Larders.seedBefore(0));
            x.pass(1);
        }
        x.fill(0, 28);
        Checks.dueText("46 longest", "0:99bCmmmmmmmm-1-2-3-4-5-6-7-8-9-10-11", Larders.shelfLine(x, 0));
    }

    private static void promise47WritePatrol() {
        LarderPatrol x = Larders.inARow(0, 0, 0, 0, 0, 0, 0, 0, 0, 0, 0, 0);
        Checks.due("47 empty", 0, x::writePatrol);
        Checks.dueThrow("47 no sign", INDEX, () -> x.lineCharacter(0));
        x.addStop(0);
        Checks.dueText("47 one", "0*", Larders.patrolLine(x));
        x.addStop(3);
        x.addStop(11);
        x.pass(1);
        Checks.dueText("47 the document's example", "0 3* 11", Larders.patrolLine(x));
        Checks.due("47 its length", 7, x::writePatrol);
        for (int stop = 3; stop < 10; stop++) {
            x.addStop(10);
        }
        Checks.dueText("47 ten stops", "0 3* 11 10 10 10 10 10 10 10", Larders.patrolLine(x));
    }

    private static void promise48LineCharacter() {
        LarderPatrol x = Larders.withCheese(42);
        Checks.dueThrow("48 initially empty", INDEX, () -> x.lineCharacter(0));
        x.writeShelf(0);
        Checks.due("48 first", '0', () -> x.lineCharacter(0));
        Checks.due("48 last", 'C', () -> x.lineCharacter(4));
        Checks.dueThrow("48 above", INDEX, () -> x.lineCharacter(5));
        Checks.dueThrow("48 below", INDEX, () -> x.lineCharacter(-1));
        Checks.dueThrow("48 far above", INDEX, () -> x.lineCharacter(Integer.MAX_VALUE));
        x.fill(0, 1);
        x.undo();
        x.undo();
        Checks.due("48 kept by undo", '4', () -> x.lineCharacter(2));
        x.writePatrol();
        Checks.dueThrow("48 replaced by a shorter one", INDEX, () -> x.lineCharacter(0));
    }
}
