import java.util.function.Supplier;

/** Long walks of calls by a fixed row of numbers, each answer against the model's. */
public final class WalksTest {
    private static final int WALKS = 3000;
    private static final int MOST_CALLS = 512;
    private static final int MOST_CALLS_AT_ONCE = 70;
    private static final int[] ODD = {Integer.MIN_VALUE, Integer.MAX_VALUE, -1, 6, 7, 9, 10, 41, 21, -21, 30, 31};

    private final Check check = new Check();
    private long seed;
    private Called x;
    private Model model;
    private boolean isWild;
    private int calls;

    public static void main(String[] args) {
        WalksTest test = new WalksTest();
        for (int walk = 0; walk < WALKS && !test.check.hasFailed(); walk++) {
            test.walk(walk);
        }
        test.check.close();
    }

    private int below(int bound) {
        seed = seed * 6364136223846793005L + 1442695040888963407L;
        return (int) ((seed >>> 33) % bound);
    }

    /** A number mostly from low to high, now and then an odd one. */
    private int number(int low, int high) {
        return below(isWild ? 8 : 40) == 0 ? ODD[below(ODD.length)] : low + below(high - low + 1);
    }

    private void same(String call, Supplier<Object> got, Supplier<Object> want) {
        calls++;
        check.same(call, Check.told(want), Check.told(got));
    }

    private void walk(int walk) {
        check.about("walk " + walk);
        seed = walk * 7919L + 17;
        isWild = walk % 3 == 0;
        x = new Called();
        model = new Model();
        calls = 0;
        int changesOfHundred = 35 + below(4) * 5;
        while (calls < MOST_CALLS - MOST_CALLS_AT_ONCE) {
            int kind = below(100);
            if (kind < changesOfHundred) {
                change();
            } else if (kind < 60) {
                text();
            } else {
                ask();
            }
        }
    }

    private void change() {
        int a = number(0, 5);
        int b = number(0, 5);
        switch (below(16)) {
            case 0: case 1: case 2:
                int tilt = number(-20, 20);
                boolean isStubborn = below(2) == 0;
                same("person", () -> x.person(tilt, isStubborn),
                        () -> model.change(isStubborn ? 's' : 'o', tilt, 0, 0));
                break;
            case 3: case 4: case 5: case 6:
                int weight = number(0, 9);
                same("friends", () -> x.friends(a, b, weight), () -> model.change('f', a, b, weight));
                break;
            case 7: case 8: case 9:
                same("round", () -> x.round(), () -> model.change('r', 0, 0, 0));
                break;
            case 10: case 11:
                int strength = number(1, 9);
                same("fact", () -> x.fact(a, strength), () -> model.change('p', a, strength, 0));
                break;
            case 12: case 13:
                int limit = number(0, below(2) == 0 ? 10 : 40);
                same("beam", () -> x.beam(a, b, limit), () -> model.change('b', a, b, limit));
                break;
            case 14:
                same("remove", () -> x.remove(a), () -> model.change('x', a, 0, 0));
                break;
            default:
                int habit = number(0, 9);
                same("habit", () -> x.habit(a, habit), () -> model.change('h', a, habit, 0));
                break;
        }
    }

    private String command() {
        switch (below(8)) {
            case 0: return "o" + "+-".charAt(below(2)) + below(22);
            case 1: return "s" + "+-".charAt(below(2)) + "0" + below(10);
            case 2: return "f" + below(7) + below(6) + "*" + below(10);
            case 3: return "r";
            case 4: return "p" + below(6) + "*" + below(10);
            case 5: return "b" + below(6) + below(6) + "<" + below(42);
            case 6: return "x" + below(6);
            default: return "h" + below(6) + "=" + below(10);
        }
    }

    private void text() {
        StringBuilder text = new StringBuilder(command());
        int commands = 1 + below(5);
        for (int command = 1; command < commands; command++) {
            text.append(';').append(command());
        }
        if (below(4) == 0) {
            text.setCharAt(below(text.length()), "osfrpbxh+-*<=;0123456789 ~".charAt(below(26)));
        }
        if (below(8) == 0) {
            text.setLength(below(text.length() + 1));
        }
        for (int index = 0; index < text.length(); index++) {
            char character = text.charAt(index);
            same("append", () -> x.append(character), () -> model.append(character));
        }
        if (below(10) > 0) {
            same("commands " + text, () -> x.commands(), () -> model.commands());
            same("faultPosition " + text, () -> x.faultPosition(), () -> model.faultPosition());
        }
    }

    private void ask() {
        int kind = below(35);
        if (kind < 12) {
            askOfPerson(kind);
        } else if (kind < 24) {
            askOfAll(kind);
        } else {
            askOfRest(kind);
        }
    }

    private void askOfPerson(int kind) {
        int a = number(0, 5);
        int b = number(0, 9);
        switch (kind) {
            case 0: same("personOf", () -> x.personOf(a, b), () -> model.personOf(a, b)); break;
            case 1: same("weight", () -> x.weight(a, b), () -> model.weight(a, b)); break;
            case 2: same("lean", () -> x.lean(a), () -> model.lean(a)); break;
            case 3: same("mean", () -> x.mean(a), () -> model.mean(a)); break;
            case 4: same("meanAgain", () -> x.meanAgain(a), () -> model.mean(a)); break;
            case 5: same("wouldMove", () -> x.wouldMove(a), () -> model.wouldMove(a)); break;
            case 6: same("puller", () -> x.puller(a), () -> model.puller(a)); break;
            case 7: same("force", () -> x.force(a, b), () -> model.force(a, b)); break;
            case 8: same("factsFor", () -> x.factsFor(a, b), () -> model.factsFor(a, b)); break;
            case 9:
                int rounds = number(0, 30);
                same("tiltIn", () -> x.tiltIn(a, rounds), () -> model.tiltIn(a, rounds));
                break;
            case 10: same("camp", () -> x.camp(a), () -> model.camp(a)); break;
            default:
                same("line", () -> x.line(a), () -> model.line(a));
                characters();
                break;
        }
    }

    private void askOfAll(int kind) {
        int a = number(0, 5);
        int b = number(0, 5);
        switch (kind) {
            case 12: case 13: same("beamOf", () -> x.beamOf(a, b), () -> model.beamOf(a, b)); break;
            case 14: same("restsIn", () -> x.restsIn(), () -> model.restsIn()); break;
            case 15: case 16: same("breaksIn", () -> x.breaksIn(a), () -> model.breaksIn(a)); break;
            case 17: same("camps", () -> x.camps(), () -> model.camps()); break;
            case 18: same("campsAgain", () -> x.campsAgain(), () -> model.camps()); break;
            case 19: same("greatest", () -> x.greatest(a % 2 == 0), () -> model.greatest(a % 2 == 0)); break;
            case 20: case 21:
                int measure = number(0, 3);
                same("ranked", () -> x.ranked(measure, b), () -> model.ranked(measure, b));
                break;
            default: same("weakest", () -> x.weakest(b), () -> model.weakest(b)); break;
        }
    }

    private void askOfRest(int kind) {
        int what = number(0, 10);
        switch (kind) {
            case 24:
                same("beams", () -> x.beams(), () -> model.beams());
                characters();
                break;
            case 25: same("meanTilt", () -> x.meanTilt(), () -> model.meanTilt()); break;
            case 26: same("plumbShare", () -> x.plumbShare(), () -> model.plumbShare()); break;
            case 27: case 28: same("account", () -> x.account(what), () -> model.account(what)); break;
            case 29: same("reason", () -> x.reason(what % 3), () -> model.reason(what % 3)); break;
            case 30: same("isEven", () -> x.isEven(), () -> true); break;
            case 31: same("character", () -> x.character(what), () -> model.character(what)); break;
            case 32: same("save", () -> x.save(), () -> model.save()); break;
            case 33:
                if (below(4) == 0) {
                    same("restore", () -> x.restore(), () -> model.restore());
                }
                break;
            default: same("undo", () -> x.undo(), () -> model.undo()); break;
        }
    }

    private void characters() {
        for (int index = 0; index < 4; index++) {
            int at = below(20);
            same("character", () -> x.character(at), () -> model.character(at));
        }
    }
}
