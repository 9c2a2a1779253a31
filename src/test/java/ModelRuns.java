/** Long runs of calls on a new object and on the model, which must answer alike; every run is the same each time. */
final class ModelRuns {
    private static final int RUNS = 1500;
    private static final int CALLS = 512;
    private static final int EXECUTE = 42;
    private static final String[] WORDS = {
        "shelf ", "link ", "cut ", "hide ", "show ", "fill ", "stop ", "drop ", "rate ", "seed ", "wait ",
    };

    private long state;

    private ModelRuns(int run) {
        state = run * 7919L + 17;
    }

    static void run() {
        for (int run = 0; run < RUNS; run++) {
            new ModelRuns(run).compare(run);
        }
    }

    private int draw(int bound) {
        state = state * 6364136223846793005L + 1442695040888963407L;
        return (int) ((state >>> 33) % bound);
    }

    private void compare(int run) {
        LarderPatrol x = new LarderPatrol();
        Model model = new Model();
        int calls = 0;
        boolean same = true;
        while (calls < CALLS && same) {
            if (draw(12) == 0) {
                String text = drawText();
                for (int index = 0; index < text.length() && calls < CALLS - 1; index++) {
                    same &= sameAnswer(run, calls++, x, model, 41, text.charAt(index), 0);
                }
                same &= sameAnswer(run, calls++, x, model, EXECUTE, 0, 0);
            } else {
                int number = draw(3) == 0 ? draw(5) : draw(54);
                same &= sameAnswer(run, calls++, x, model, number, drawFirst(number), drawSecond(number));
            }
        }
    }

    private static boolean sameAnswer(int run, int call, LarderPatrol x, Model model, int number, int a, int b) {
        String due = Checks.answerOf(() -> model.call(number, a, b));
        String answer = Checks.answerOf(() -> call(x, number, a, b));
        String what = "model run " + run + ", call " + call + ": method " + number + "(" + a + ", " + b + ")";
        Checks.dueText(what, due, answer);
        return due.equals(answer);
    }

    private int drawFirst(int number) {
        switch (number) {
            case 0:
                return draw(10) == 0 ? draw(104) - 2 : draw(6);
            case 22:
            case 23:
                return draw(6) == 0 ? draw(64) - 1 : draw(8);
            case 24:
                return draw(20) - 1;
            case 25:
                return draw(1030) - 2;
            case 41:
                return draw(2) == 0 ? draw(65536) : 32 + draw(96);
            case 46:
                return draw(30) - 1;
            default:
                return draw(12) == 0 ? draw(200) - 100 : draw(14) - 1;
        }
    }

    private int drawSecond(int number) {
        if (number == 3) {
            return draw(2);
        }
        return number == 4 ? draw(draw(4) == 0 ? 104 : 12) - 1 : draw(14) - 1;
    }

    private String drawText() {
        StringBuilder text = new StringBuilder(drawCommand());
        while (text.length() < 50 && draw(3) != 0) {
            text.append(';').append(drawCommand());
        }
        if (draw(4) == 0) {
            spoil(text);
        }
        return text.toString();
    }

    private void spoil(StringBuilder text) {
        int place = draw(text.length());
        char sign = " ;-0123456789shelfinkcutdowpra".charAt(draw(30));
        switch (draw(4)) {
            case 0:
                text.setCharAt(place, sign);
                break;
            case 1:
                text.insert(place, sign);
                break;
            case 2:
                text.deleteCharAt(place);
                break;
            default:
                text.setLength(place);
                break;
        }
    }

    private String drawCommand() {
        int word = draw(WORDS.length);
        StringBuilder command = new StringBuilder(WORDS[word]);
        switch (word) {
            case 1:
            case 2:
                return command.append(draw(13)).append('-').append(draw(13)).toString();
            case 5:
                return command.append(draw(13)).append(' ').append(draw(40)).toString();
            case 7:
                return command.append(draw(10)).toString();
            case 9:
                return command.append(draw(1030)).toString();
            case 10:
                return command.append(draw(8) == 0 ? draw(64) : 1 + draw(5)).toString();
            default:
                return command.append(draw(4) == 0 ? "0" : "").append(draw(10)).toString();
        }
    }

    private static long call(LarderPatrol x, int number, int a, int b) {
        switch (number) {
            case 0: return x.addShelf(a);
            case 1: return x.link(a, b);
            case 2: return x.unlink(a, b);
            case 3: return x.setBlind(a, b == 1);
            case 4: return x.fill(a, b);
            case 5: return x.shelfCount();
            case 6: return x.passageCount();
            case 7: return x.cheese(a);
            case 8: return x.isBlind(a) ? 1 : 0;
            case 9: return x.neighbourCount(a);
            case 10: return x.distance(a, b);
            case 11: return x.distanceByTable(a, b);
            case 12: return x.groupCount();
            case 13: return x.shelfByCheese(a);
            case 14: return x.addStop(a);
            case 15: return x.removeStop(a);
            case 16: return x.stopCount();
            case 17: return x.shelfOfStop(a);
            case 18: return x.catShelf();
            case 19: return x.goal();
            case 20: return x.nextShelf();
            case 21: return x.lapLength();
            case 22: return x.pass(a);
            case 23: return x.predictCaught(a);
            case 24: return x.setRate(a);
            case 25: return x.setSeed(a);
            case 26: return x.seed();
            default: return callMore(x, number, a);
        }
    }

    private static long callMore(LarderPatrol x, int number, int a) {
        switch (number) {
            case 27: return x.minute();
            case 28: return x.mouseCount();
            case 29: return x.mouseShelf(a);
            case 30: return x.mouseEaten(a);
            case 31: return x.mouseHunger(a);
            case 32: return x.miceOn(a);
            case 33: return x.totalCheese();
            case 34: return x.totalCheeseByAccounts();
            case 35: return x.eaten();
            case 36: return x.caught();
            case 37: return x.gone();
            case 38: return x.rinds();
            case 39: return Double.doubleToLongBits(x.meanCheese());
            case 40: return Float.floatToIntBits(x.caughtShare());
            case 41: return x.feed((char) a);
            case 42: return x.execute();
            case 43: return x.faultPosition();
            case 44: return x.writeShelf(a);
            case 45: return x.writePatrol();
            case 46: return x.lineCharacter(a);
            case 47: return x.denial();
            case 48: return x.denialDetail();
            case 49: return x.denialCause();
            case 50: return x.undo();
            case 51: return x.undoCount();
            case 52: return x.saveSnapshot();
            case 53: return x.restoreSnapshot();
            default: throw new AssertionError(number);
        }
    }
}
