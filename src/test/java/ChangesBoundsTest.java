/** The sentences of promises 1 to 8 and 39 to 41, and of "Reasons", that name a bound or refuse a call. */
public final class ChangesBoundsTest extends Bench {
    private static final String REASONS = "Terms, Reasons";

    public static void main(String[] args) {
        ChangesBoundsTest test = new ChangesBoundsTest();
        test.promise1();
        test.promise2();
        test.promise3();
        test.promise3Order();
        test.promise4();
        test.promise5();
        test.promise6();
        test.promise6Order();
        test.promise7();
        test.promise8();
        test.reasonsKept();
        test.promise39();
        test.promise40();
        test.promise41();
        test.check.close();
    }

    private void promise1() {
        sentence("Promise 1", "Creates a house without persons and beams.");
        check.same("accounts", "0 0 0 0 0 0 0 0 0 0 0", accounts());
        due(INDEX, () -> x.personOf(0, 0), "personOf");
        due(INDEX, () -> x.weight(0, 0), "weight");
        due(INDEX, () -> x.beamOf(0, 0), "beamOf");
        due(INDEX, () -> x.lean(0), "lean");
        due(INDEX, () -> x.mean(0), "mean");
        due(INDEX, () -> x.meanAgain(0), "meanAgain");
        due(INDEX, () -> x.wouldMove(0), "wouldMove");
        due(INDEX, () -> x.puller(0), "puller");
        due(INDEX, () -> x.force(0, 1), "force");
        due(INDEX, () -> x.factsFor(0, 1), "factsFor");
        due(INDEX, () -> x.tiltIn(0, 0), "tiltIn");
        due(NONE, () -> x.restsIn(), "restsIn");
        due(INDEX, () -> x.breaksIn(0), "breaksIn");
        due(INDEX, () -> x.camp(0), "camp");
        check.same("camps", "0 0", x.camps() + " " + x.campsAgain());
        due(NONE, () -> x.greatest(true), "greatest to the left");
        due(NONE, () -> x.greatest(false), "greatest to the right");
        due(NONE, () -> x.ranked(0, 0), "ranked");
        due(NONE, () -> x.weakest(0), "weakest");
        due(true, () -> x.isEven(), "isEven");
        due(-1, () -> x.faultPosition(), "faultPosition");
        due(NONE, () -> x.reason(0), "reason");
        due(INDEX, () -> x.character(0), "character");
        due(INDEX, () -> x.line(0), "line");
        due(0, () -> x.beams(), "beams");
        due(ARITHMETIC, () -> x.meanTilt(), "meanTilt");
        due(ARITHMETIC, () -> x.plumbShare(), "plumbShare");
        due(STATE, () -> x.undo(), "undo");
        due(STATE, () -> x.restore(), "restore");
        due(0, () -> x.save(), "save");
    }

    private void promise2() {
        sentence("Promise 2", "if it is refused for the reason 1 or 2; the reason is kept");
        for (int odd : ODD) {
            if (odd != -1) {
                refused("1 0 0", () -> x.person(odd, false), "nobody there, tilt " + odd);
            }
        }
        due(0, () -> x.person(20, true), "the first");
        for (int person = 1; person <= 4; person++) {
            x.person(-20, false);
        }
        refused("1 0 0", () -> x.person(-21, true), "five there, tilt -21");
        due(5, () -> x.person(-20, true), "five there, tilt -20");
        refused("2 6 0", () -> x.person(-20, true), "six there, tilt -20");
        refused("2 6 0", () -> x.person(20, false), "six there, tilt 20");
        refused("1 0 0", () -> x.person(-21, true), "six there, tilt -21");
        refused("1 0 0", () -> x.person(21, false), "six there, tilt 21");
        due(6, () -> x.account(9), "changes");
    }

    private void promise3() {
        sentence("Promise 3", "if it is refused for the reason 3, for either, 4, 1 or 5; the reason is kept");
        refused("3 0 0", () -> x.friends(0, 1, 1), "nobody there");
        called("o+1");
        refused("3 1 0", () -> x.friends(0, 1, 1), "the other is not there");
        refused("3 1 0", () -> x.friends(1, 0, 1), "the one is not there");
        called("o+2");
        due(0, () -> x.friends(0, 1, 1), "both are there");
        refused("4 0 0", () -> x.friends(0, 0, 1), "both are 0");
        refused("4 1 0", () -> x.friends(1, 1, 9), "both are 1");
        refused("5 1 0", () -> x.friends(0, 1, 1), "so already");
        refused("5 1 0", () -> x.friends(1, 0, 1), "so already, the other way");
        due(1, () -> x.friends(1, 0, 2), "not so already");
        for (int odd : ODD) {
            refused("3 2 0", () -> x.friends(odd, 0, 1), "the one is " + odd);
            refused("3 2 0", () -> x.friends(0, odd, 1), "the other is " + odd);
            refused("1 0 0", () -> x.friends(0, 1, odd), "the weight is " + odd);
        }
        sentence("Promise 3", "Returns the weight before, 0 if they were none.");
        called("o+1;o+2;o+3");
        due(0, () -> x.friends(2, 1, 9), "none before");
        due(9, () -> x.friends(1, 2, 1), "9 before");
        due(1, () -> x.friends(2, 1, 0), "1 before");
        due(0, () -> x.friends(2, 1, 3), "none before");
        check.same("weights", "0 0 3", x.weight(0, 1) + " " + x.weight(0, 2) + " " + x.weight(1, 2));
    }

    private void promise3Order() {
        sentence(REASONS, "Something is refused for the first that applies of the reasons that its method names");
        called("o+1;o+2;f01*5");
        refused("3 2 0", () -> x.friends(2, 2, 1), "3 ahead of 4");
        refused("3 2 0", () -> x.friends(2, 2, 10), "3 ahead of 4 and 1");
        refused("3 2 0", () -> x.friends(0, 2, 10), "3 ahead of 1");
        refused("3 2 0", () -> x.friends(2, 0, -1), "3 ahead of 1, the other way");
        refused("3 2 0", () -> x.friends(0, 2, 0), "3 ahead of 5");
        refused("4 1 0", () -> x.friends(1, 1, 10), "4 ahead of 1");
        refused("4 1 0", () -> x.friends(1, 1, 0), "4 ahead of 5");
        refused("1 0 0", () -> x.friends(0, 1, 10), "1");
        refused("5 5 0", () -> x.friends(0, 1, 5), "5");
    }

    private void promise4() {
        sentence("Promise 4", "if it is refused for the reason 10; the reason is kept");
        refused("10 0 0", () -> x.round(), "nobody there");
        refusedText("10 0 0", "r;o+1");
        called("o+20");
        due(0, () -> x.round(), "one there");
        check.same("it stays kept", "10 0 0", reasons());
        called("r");
        due(2, () -> x.undo(), "undo of a round");
        due(1, () -> x.account(4), "rounds");
        x.undo();
        x.undo();
        refused("10 0 0", () -> x.round(), "nobody there again");

        sentence("Promise 4", "Returns how many tilts moved.");
        called("o+1;s-1;o+0;o+20;o-20;o+3");
        due(0, () -> x.round(), "without friends none");
        called("f34*1");
        due(2, () -> x.round(), "two friends");
        again();
        called("o+20;o-20;o+20;o-20;o+20;o-20;f01*1;f23*1;f45*1");
        due(6, () -> x.round(), "all six");
        check.same("tilts", "10 -10 10 -10 10 -10", tilts());
        again();
        called("o+20;s-20;h1=9;f01*1");
        due(1, () -> x.round(), "one without a step");
        check.same("tilts", "10 -20", tilts());
    }

    private void promise5() {
        sentence("Promise 5", "if it is refused for the reason 3, 1, 6 or 7; the reason is kept");
        refused("3 0 0", () -> x.fact(0, 1), "nobody there");
        called("o+0;o+9;h0=9;h1=6");
        refused("3 2 0", () -> x.fact(2, 3), "person 2");
        refused("3 2 0", () -> x.fact(-1, 3), "person -1");
        refused("1 0 0", () -> x.fact(1, 0), "strength 0");
        refused("1 0 0", () -> x.fact(1, 10), "strength 10");
        refused("7 1 0", () -> x.fact(1, 1), "strength 1 less 2");
        refused("7 2 0", () -> x.fact(1, 2), "strength 2 less 2");
        due(8, () -> x.fact(1, 3), "strength 3 less 2");
        due(1, () -> x.fact(1, 9), "strength 9 less 2");
        due(0, () -> x.fact(1, 9), "not beyond 0");
        refused("6 6 0", () -> x.fact(1, 9), "plumb by a fact");
        refused("6 9 0", () -> x.fact(0, 9), "plumb at first");
        for (int odd : ODD) {
            refused("3 2 0", () -> x.fact(odd, 1), "person " + odd);
            refused("1 0 0", () -> x.fact(1, odd), "strength " + odd);
        }
        check.same("facts", "3 3 0", x.account(5) + " " + x.personOf(1, 6) + " " + x.personOf(0, 6));

        sentence(REASONS, "Something is refused for the first that applies of the reasons that its method names");
        called("o+0;o+9;h0=9;h1=9");
        refused("3 2 0", () -> x.fact(2, 0), "3 ahead of 1");
        refused("3 2 0", () -> x.fact(-1, 10), "3 ahead of 1");
        refused("1 0 0", () -> x.fact(0, 0), "1 ahead of 6 and 7");
        refused("1 0 0", () -> x.fact(0, 10), "1 ahead of 6");
        refused("1 0 0", () -> x.fact(1, 0), "1 ahead of 7");
        refused("6 9 0", () -> x.fact(0, 3), "6 ahead of 7");
        refused("7 3 0", () -> x.fact(1, 3), "7");
    }

    private void promise6() {
        sentence("Promise 6", "if it is refused for the reason 3, for either, 4, 1, 9 or 2; the reason is kept");
        refused("3 0 0", () -> x.beam(0, 1, 1), "nobody there");
        called("o+1");
        refused("3 1 0", () -> x.beam(0, 1, 1), "the other is not there");
        refused("3 1 0", () -> x.beam(1, 0, 1), "the one is not there");
        called("o+2");
        refused("4 0 0", () -> x.beam(0, 0, 1), "both are 0");
        refused("4 1 0", () -> x.beam(1, 1, 1), "both are 1");
        refused("1 0 0", () -> x.beam(0, 1, 41), "limit 41");
        refused("1 0 0", () -> x.beam(0, 1, -1), "limit -1");
        due(0, () -> x.beam(1, 0, 40), "limit 40");
        refused("9 0 0", () -> x.beam(0, 1, 40), "they have one");
        due(0, () -> x.remove(0), "they have none");
        due(0, () -> x.beam(0, 1, 0), "limit 0");
        called("o+3");
        for (int odd : ODD) {
            refused("3 3 0", () -> x.beam(odd, 0, 1), "the one is " + odd);
            refused("3 3 0", () -> x.beam(0, odd, 1), "the other is " + odd);
            refused("1 0 0", () -> x.beam(0, 2, odd), "the limit is " + odd);
        }
        check.same("beams", "0-1<0", beams());
    }

    private void promise6Order() {
        sentence(REASONS, "Something is refused for the first that applies of the reasons that its method names");
        called("o+1;o+2;o+3;o+4;o+5 b01<1;b02<2;b03<3;b04<4;b12<5");
        refused("9 4 0", () -> x.beam(2, 1, 5), "9, one less than there can be");
        refused("3 5 0", () -> x.beam(5, 5, 5), "3 ahead of 4");
        refused("3 5 0", () -> x.beam(5, 5, 41), "3 ahead of 4 and 1");
        refused("3 5 0", () -> x.beam(0, 5, 41), "3 ahead of 1");
        refused("4 3 0", () -> x.beam(3, 3, 41), "4 ahead of 1");
        refused("1 0 0", () -> x.beam(0, 1, 41), "1 ahead of 9");
        due(5, () -> x.beam(1, 3, 6), "the 6th");
        refused("3 5 0", () -> x.beam(-1, 3, 6), "3 ahead of 2");
        refused("4 3 0", () -> x.beam(3, 3, 6), "4 ahead of 2");
        refused("1 0 0", () -> x.beam(2, 3, -1), "1 ahead of 2");
        refused("1 0 0", () -> x.beam(1, 3, -1), "1 ahead of 9 and 2");
        refused("9 5 0", () -> x.beam(3, 1, 6), "9 ahead of 2");
        refused("9 0 0", () -> x.beam(0, 1, 6), "9 ahead of 2, the first");
        refused("2 6 0", () -> x.beam(2, 3, 6), "2");
    }

    private void promise7() {
        sentence("Promise 7", "if it is refused for the reason 8; the reason is kept");
        refused("8 0 0", () -> x.remove(0), "no beams");
        called("o+1;o+2;o+3;b01<1;b02<2");
        refused("8 2 0", () -> x.remove(2), "beam 2 of two");
        refused("8 2 0", () -> x.remove(-1), "beam -1");
        for (int odd : ODD) {
            refused("8 2 0", () -> x.remove(odd), "beam " + odd);
        }
        due(1, () -> x.remove(1), "beam 1 of two");
        refused("8 1 0", () -> x.remove(1), "beam 1 of one");
        due(0, () -> x.remove(0), "beam 0 of one");
        refused("8 0 0", () -> x.remove(0), "no beams any more");
        check.same("none broke", "0 0 0", x.account(2) + " " + x.account(6) + " " + x.account(7));
    }

    private void promise8() {
        sentence("Promise 8", "if it is refused for the reason 3, 1 or 5; the reason is kept");
        refused("3 0 0", () -> x.habit(0, 1), "nobody there");
        called("o+1;s+1");
        refused("5 0 0", () -> x.habit(0, 0), "0 already");
        due(0, () -> x.habit(0, 1), "1");
        refused("5 1 0", () -> x.habit(0, 1), "1 already");
        due(1, () -> x.habit(0, 9), "9");
        refused("5 9 0", () -> x.habit(0, 9), "9 already");
        refused("1 0 0", () -> x.habit(0, 10), "10");
        refused("1 0 0", () -> x.habit(0, -1), "-1");
        due(9, () -> x.habit(0, 0), "0");
        refused("3 2 0", () -> x.habit(2, 5), "person 2");
        refused("3 2 0", () -> x.habit(-1, 5), "person -1");
        for (int odd : ODD) {
            refused("3 2 0", () -> x.habit(odd, 5), "person " + odd);
            refused("1 0 0", () -> x.habit(1, odd), "habit " + odd);
        }
        called("r");
        check.same("behind a round", "1 1", x.personOf(0, 1) + " " + x.personOf(1, 1));
        refused("5 1 0", () -> x.habit(1, 1), "1 by a round");

        sentence(REASONS, "Something is refused for the first that applies of the reasons that its method names");
        called("o+1");
        refused("3 1 0", () -> x.habit(1, 10), "3 ahead of 1");
        refused("3 1 0", () -> x.habit(1, 0), "3 ahead of 5");
        refused("1 0 0", () -> x.habit(0, 10), "1");
        refused("5 0 0", () -> x.habit(0, 0), "5");
    }

    private void reasonsKept() {
        sentence(REASONS, "The reason is kept with the index of the command of a text, from 0, or 0 for another call.");
        called("o+1");
        refusedText("8 0 0", "x0");
        refusedText("8 0 1", "r;x0");
        refusedText("8 0 28", "r;".repeat(28) + "x0");
        refused("8 0 0", () -> x.remove(0), "another call");
        refusedText("5 0 2", "r;h0=0;h0=0;x0");
        refusedText("8 0 29", "r;".repeat(29) + "x0");
    }

    private void promise39() {
        sentence("Promise 39", "if there is none");
        due(STATE, () -> x.undo(), "nothing so far");
        called("o+20");
        due(0, () -> x.undo(), "one");
        due(STATE, () -> x.undo(), "no more");
        due(0, () -> x.account(0), "nobody");
        x.save();
        due(STATE, () -> x.undo(), "save is no change");
        called("o+20");
        x.restore();
        due(STATE, () -> x.undo(), "restore is none, and forgets");

        sentence("Promise 39", "Returns the number of calls that can still be undone.");
        called("o+20;h0=1;h0=2;h0=3;h0=4;h0=5;h0=6;h0=7");
        due(8, () -> x.account(9), "eight");
        due(7, () -> x.undo(), "eight less one");
        called("h0=8;h0=9");
        due(8, () -> x.account(9), "nine, of which eight are kept");
        for (int left = 7; left >= 0; left--) {
            due(left, () -> x.undo(), "undo");
        }
        check.same("behind the first", "1 0", x.account(0) + " " + x.personOf(0, 1));
        due(STATE, () -> x.undo(), "the first is not kept");

        sentence("Promise 39", "Undoes the latest call that can be undone.");
        called("o+20;o-20;f01*3;b01<9;r;r");
        check.same("behind it", "0 2 2", x.personOf(0, 0) + " " + x.account(4) + " " + x.account(0));
        due(5, () -> x.undo(), "undo");
        check.same("one round less", "10 1 1", x.personOf(0, 0) + " " + x.account(4) + " " + x.beamOf(0, 3));
        called("r");
        check.same("again", "0 2 1", x.personOf(0, 0) + " " + x.account(4) + " " + x.beamOf(0, 3));
        called("r;r;r;r;r;r;r;r;r");
        for (int left = 7; left >= 0; left--) {
            due(left, () -> x.undo(), "undo of many");
        }
        check.same("eight rounds less", "3", x.account(4));
    }

    private void promise40() {
        sentence("Promise 40", "Returns how many persons there are.");
        due(0, () -> x.save(), "nobody");
        for (int person = 1; person <= 6; person++) {
            int count = person;
            x.person(person, false);
            due(count, () -> x.save(), "persons");
        }
        sentence("Promise 40", "Saves all that can be undone, in place of an earlier snapshot.");
        called("o+20;o-20;f01*3;b01<9;r;p0*1;h1=7");
        due(2, () -> x.save(), "save");
        String saved = Answers.ofHouse(x).substring("2 1 1 0 1 1 1 0 -1 7".length());
        called("x0;r;r;o+3;f01*9");
        due(2, () -> x.restore(), "restore");
        check.same("accounts", "2 1 1 0 1 1 1 0 -1 0 0", accounts());
        check.same("all else", saved, Answers.ofHouse(x).substring("2 1 1 0 1 1 1 0 -1 0".length()));
        called("o+3");
        due(3, () -> x.save(), "in place of it");
        x.undo();
        due(3, () -> x.restore(), "the later one");
    }

    private void promise41() {
        sentence("Promise 41", "if there is no snapshot");
        due(STATE, () -> x.restore(), "a new object");
        called("o+20");
        due(STATE, () -> x.restore(), "still none");
        due(1, () -> x.save(), "save");
        x.undo();
        due(1, () -> x.restore(), "restore");
        check.same("the person", "20 0", x.personOf(0, 0) + " " + x.account(9));

        sentence("Promise 41", "Restores what was saved; the snapshot is kept.");
        due(0, () -> x.save(), "an empty house");
        called("o+1;o+2");
        due(0, () -> x.restore(), "restore");
        due(0, () -> x.account(0), "nobody");
        called("o-5");
        check.same("a new person has nothing of an earlier one", "-5 0 0 10 0 0 0 0", numbers(0));
        due(0, () -> x.restore(), "once more");
        due(0, () -> x.account(0), "nobody");

        sentence("Promise 41", "Restores what was saved");
        // 1 at -11: (-11 + 180 + 4) / 14 = 12, by 10; 2: (4 - 44) / 8 = -5, by 6.
        called("s+20;o-20;o+1;f01*9;f12*4;h0=9;h2=3;b01<0;b12<40;p1*9;r");
        due(3, () -> x.save(), "save");
        called("x0;f01*0;h0=3;p1*1;r;r");
        due(3, () -> x.restore(), "restore");
        check.same("persons", "s+20#9 1*9 | o-1#0 0*9 2*4 | o-5#2 1*4", people());
        check.same("beams", "0-1<0! 1-2<40", beams());
    }
}
