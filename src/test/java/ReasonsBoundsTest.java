/** Each reason on both sides of its bound, with its detail; and that nothing changes behind an exception. */
public final class ReasonsBoundsTest extends Bench {
    private static final String REASONS = "Terms, Reasons";

    public static void main(String[] args) {
        ReasonsBoundsTest test = new ReasonsBoundsTest();
        test.outOfRange();
        test.asManyAsCanBe();
        test.noSuchPerson();
        test.bothAreOne();
        test.soAlready();
        test.plumb();
        test.noForce();
        test.noSuchBeam();
        test.haveABeam();
        test.nobody();
        test.whatLeavesTheReason();
        test.exceptions();
        test.exceptionsOfTexts();
        test.check.close();
    }

    private void outOfRange() {
        sentence(REASONS, "1, a number is out of range;");
        called("o+20;o-20;h1=9");
        refused("1 0 0", () -> x.person(21, false), "tilt 21");
        refused("1 0 0", () -> x.person(-21, false), "tilt -21");
        refused("1 0 0", () -> x.friends(0, 1, 10), "weight 10");
        refused("1 0 0", () -> x.fact(0, 10), "strength 10");
        refused("1 0 0", () -> x.fact(0, 0), "strength 0");
        refused("1 0 0", () -> x.beam(0, 1, 41), "limit 41");
        refused("1 0 0", () -> x.beam(0, 1, -1), "limit -1");
        refused("1 0 0", () -> x.habit(0, 10), "habit 10");
        refused("1 0 0", () -> x.habit(0, -1), "habit -1");
        refusedText("1 0 1", "r;o+21");
        refusedText("1 0 2", "r;r;o-21");
        refusedText("1 0 0", "p0*0");
        refusedText("1 0 0", "b01<41");
        called("o-20;o+20;f01*9;b01<40;p0*9;h0=9");
        check.same("in their ranges", "9 40 11 9", x.weight(0, 1) + " " + x.beamOf(0, 2) + " " + x.personOf(0, 0) + " "
                + x.personOf(0, 1));

        sentence(REASONS, "If nothing else is told, the detail is 0.");
        called("o+20;o-20");
        refused("8 0 0", () -> x.remove(0), "a detail of 0 that is told");
        refused("4 1 0", () -> x.friends(1, 1, 10), "a detail of 1");
        refused("1 0 0", () -> x.friends(1, 0, 10), "none, behind a detail of 1");
        refusedText("3 2 4", "r;r;r;r;p2*1");
        refused("1 0 0", () -> x.person(99, true), "none, behind an index of 4");
    }

    private void asManyAsCanBe() {
        sentence(REASONS, "2, there are as many as there can be: this number;");
        called("o+1;o+2;o+3;o+4;o+5;b01<1;b02<1;b03<1;b04<1;b12<1");
        due(5, () -> x.person(6, false), "the 6th person");
        refused("2 6 0", () -> x.person(6, false), "the 7th person");
        due(5, () -> x.beam(0, 5, 1), "the 6th beam");
        refused("2 6 0", () -> x.beam(1, 5, 1), "the 7th beam");
        refusedText("2 6 1", "x0;o+6");
        refusedText("2 6 2", "x0;b15<1;b25<1");
        check.same("six beams again", "2", run("x0;b15<1"));
    }

    private void noSuchPerson() {
        sentence(REASONS, "3, there is no such person: how many there are;");
        for (int count = 0; count < 6; count++) {
            int many = count;
            refused("3 " + many + " 0", () -> x.fact(many, 1), "fact to person " + many);
            refused("3 " + many + " 0", () -> x.habit(many, 1), "habit of person " + many);
            refused("3 " + many + " 0", () -> x.friends(many, 0, 1), "friends of person " + many);
            refused("3 " + many + " 0", () -> x.friends(0, many, 1), "friends with person " + many);
            refused("3 " + many + " 0", () -> x.beam(many, 0, 1), "a beam of person " + many);
            refused("3 " + many + " 0", () -> x.beam(0, many, 1), "a beam to person " + many);
            again();
            for (int person = 0; person <= many; person++) {
                x.person(20, false);
            }
            due(19, () -> x.fact(many, 1), "fact to person " + many);
            due(0, () -> x.habit(many, 1), "habit of person " + many);
            if (many > 0) {
                due(0, () -> x.friends(many, 0, 1), "friends of person " + many);
                due(0, () -> x.beam(0, many, 1), "a beam to person " + many);
            }
        }
        refused("3 6 0", () -> x.fact(6, 1), "fact to person 6");
        refused("3 6 0", () -> x.beam(5, 6, 1), "a beam to person 6");
        refusedText("3 6 0", "h6=1");
        refusedText("3 6 0", "f96*1");
    }

    private void bothAreOne() {
        sentence(REASONS, "4, both persons are one: the person;");
        called("o+1;o+1;o+1;o+1;o+1;o+1");
        for (int person = 0; person < 6; person++) {
            int one = person;
            refused("4 " + one + " 0", () -> x.friends(one, one, 1), "friends of " + one + " alone");
            refused("4 " + one + " 0", () -> x.beam(one, one, 1), "a beam of " + one + " alone");
            int other = one == 5 ? 4 : one + 1;
            again();
            called("o+1;o+1;o+1;o+1;o+1;o+1");
            due(0, () -> x.friends(one, other, 1), "friends of " + one + " and " + other);
            due(0, () -> x.beam(one, other, 1), "a beam of " + one + " and " + other);
        }
        refusedText("4 5 0", "b55<1");
        refusedText("4 5 1", "r;f55*0");
    }

    private void soAlready() {
        sentence(REASONS, "5, it is so already: the weight, or the habit;");
        called("o+1;o+1;o+1");
        refused("5 0 0", () -> x.friends(0, 1, 0), "a weight of 0");
        refused("5 0 0", () -> x.habit(2, 0), "a habit of 0");
        for (int number = 1; number <= 9; number++) {
            int now = number;
            due(now - 1, () -> x.friends(0, 1, now), "weight " + now);
            refused("5 " + now + " 0", () -> x.friends(1, 0, now), "weight " + now + " already");
            due(now - 1, () -> x.habit(2, now), "habit " + now);
            refused("5 " + now + " 0", () -> x.habit(2, now), "habit " + now + " already");
        }
        refusedText("5 9 1", "h2=8;f01*9");
        refusedText("5 7 2", "h2=8;h2=7;h2=7");
    }

    private void plumb() {
        sentence(REASONS, "6, the opinion is plumb: the habit;");
        called("o+0;o+1;o-1;h0=8");
        refused("6 8 0", () -> x.fact(0, 9), "plumb");
        due(0, () -> x.fact(1, 9), "1 to the right");
        due(0, () -> x.fact(2, 9), "1 to the left");
        refused("6 0 0", () -> x.fact(1, 9), "plumb by a fact");
        called("r;r");
        refused("6 9 0", () -> x.fact(0, 9), "plumb, with 2 more, but 9 at most");
        refused("6 2 0", () -> x.fact(2, 9), "plumb, with 2 more");
        refusedText("6 3 1", "r;p1*1");
    }

    private void noForce() {
        sentence(REASONS, "7, the fact has no force: its strength;");
        called("o+20;o+20;o+20;o+20;h1=3;h2=6;h3=9");
        due(19, () -> x.fact(0, 1), "habit 0, strength 1");
        refused("7 1 0", () -> x.fact(1, 1), "habit 3, strength 1");
        due(19, () -> x.fact(1, 2), "habit 3, strength 2");
        refused("7 1 0", () -> x.fact(2, 1), "habit 6, strength 1");
        refused("7 2 0", () -> x.fact(2, 2), "habit 6, strength 2");
        due(19, () -> x.fact(2, 3), "habit 6, strength 3");
        refused("7 3 0", () -> x.fact(3, 3), "habit 9, strength 3");
        due(19, () -> x.fact(3, 4), "habit 9, strength 4");
        called("h1=2;h2=5;h3=8");
        due(18, () -> x.fact(1, 1), "habit 2, strength 1");
        refused("7 1 0", () -> x.fact(2, 1), "habit 5, strength 1");
        due(18, () -> x.fact(2, 2), "habit 5, strength 2");
        refused("7 2 0", () -> x.fact(3, 2), "habit 8, strength 2");
        due(18, () -> x.fact(3, 3), "habit 8, strength 3");
        refusedText("7 3 1", "h3=9;p3*3");
    }

    private void noSuchBeam() {
        sentence(REASONS, "8, there is no such beam: how many there are;");
        called("o+1;o+1;o+1;o+1");
        refused("8 0 0", () -> x.remove(0), "no beams");
        called("b01<1;b02<1;b03<1;b12<1;b13<1;b23<1");
        for (int count = 6; count > 0; count--) {
            int many = count;
            refused("8 " + many + " 0", () -> x.remove(many), "beam " + many);
            due(many - 1, () -> x.remove(many - 1), "beam " + (many - 1));
        }
        refused("8 0 0", () -> x.remove(0), "no beams any more");
        called("b01<1;b02<1");
        refusedText("8 1 1", "x0;x1");
        refusedText("8 0 2", "x0;x0;x0");
        check.same("both", "2", run("x1;x0"));
    }

    private void haveABeam() {
        sentence(REASONS, "9, they have a beam: which;");
        called("o+1;o+1;o+1;o+1;b03<1;b12<1;b01<1");
        refused("9 0 0", () -> x.beam(3, 0, 2), "the first");
        refused("9 1 0", () -> x.beam(1, 2, 2), "the second");
        refused("9 2 0", () -> x.beam(0, 1, 2), "the third");
        due(3, () -> x.beam(0, 2, 2), "of two who have none");
        due(3, () -> x.remove(1), "the second goes");
        refused("9 1 0", () -> x.beam(1, 0, 2), "the third, with 1 less");
        due(3, () -> x.beam(1, 2, 2), "of two who have none any more");
        refusedText("9 3 1", "r;b21<1");
    }

    private void nobody() {
        sentence(REASONS, "10, nobody is there: how many rounds were so far.");
        refused("10 0 0", () -> x.round(), "no rounds so far");
        refusedText("10 0 0", "r");
        called("o+1;r;r");
        check.same("undo", "210", "" + x.undo() + x.undo() + x.undo());
        // Undo takes the rounds back too, so that there are none whenever nobody is there.
        refused("10 0 0", () -> x.round(), "no rounds any more");
        due(0, () -> x.account(4), "rounds");
        called("o+1");
        due(0, () -> x.round(), "one there");
    }

    private void whatLeavesTheReason() {
        sentence("Terms", "The reason is kept with the index of the command of a text, from 0, or 0 for another call.");
        called("o+1;o+2");
        refusedText("3 2 3", "r;r;r;p2*1");
        called("f01*1;r;p0*1;b01<9;x0;h0=9;o+3");
        check.same("behind each kind of change", "3 2 3", reasons());
        check.same("behind a text", "1", run("r"));
        x.save();
        x.undo();
        x.restore();
        x.line(0);
        x.beams();
        check.same("behind all else", "3 2 3", reasons());
        due(INDEX, () -> x.lean(5), "an exception that is no refusal");
        check.same("behind it", "3 2 3", reasons());
        refused("4 1 0", () -> x.beam(1, 1, 1), "the next one");
    }

    /** A house with all that a call could leave a trace in. */
    private void richHouse() {
        called("o+20;o-20;s+0;h2=9;f01*3;b01<9;r");
        x.save();
        called("p0*1;h0=7");
        run("r;rr");
        refusedText("8 1 1", "r;x7");
        faultyText(3, "r;rr");
        x.line(0);
        write("r;");
    }

    private void exceptions() {
        sentence("Terms", "A call that throws an exception leaves the state unchanged, unless stated otherwise.");
        richHouse();
        check.same("ahead of it", "2 3 8 1 1", Answers.ofText(x) + " " + reasons());
        due(INDEX, () -> x.personOf(3, 0), "personOf");
        due(ARGUMENT, () -> x.personOf(0, 8), "personOf");
        due(INDEX, () -> x.weight(0, 3), "weight");
        due(INDEX, () -> x.beamOf(1, 0), "beamOf");
        due(ARGUMENT, () -> x.beamOf(0, 5), "beamOf");
        due(INDEX, () -> x.lean(3), "lean");
        due(INDEX, () -> x.mean(3), "mean");
        due(INDEX, () -> x.meanAgain(3), "meanAgain");
        due(INDEX, () -> x.wouldMove(3), "wouldMove");
        due(INDEX, () -> x.puller(3), "puller");
        due(NONE, () -> x.puller(2), "puller");
        due(INDEX, () -> x.force(3, 1), "force");
        due(ARGUMENT, () -> x.force(0, 10), "force");
        due(INDEX, () -> x.factsFor(3, 1), "factsFor");
        due(ARGUMENT, () -> x.factsFor(0, 10), "factsFor");
        due(NONE, () -> x.factsFor(0, 2), "factsFor");
        due(INDEX, () -> x.tiltIn(3, 1), "tiltIn");
        due(ARGUMENT, () -> x.tiltIn(0, 31), "tiltIn");
        due(INDEX, () -> x.breaksIn(1), "breaksIn");
        due(INDEX, () -> x.camp(3), "camp");
        due(ARGUMENT, () -> x.ranked(4, 0), "ranked");
        due(NONE, () -> x.ranked(0, 3), "ranked");
        due(NONE, () -> x.weakest(1), "weakest");
        due(ARGUMENT, () -> x.reason(3), "reason");
        due(INDEX, () -> x.line(3), "line");
        due(INDEX, () -> x.character(99), "character");
        due(ARGUMENT, () -> x.account(11), "account");
        check.same("behind it", "2 3 8 1 1", Answers.ofText(x) + " " + reasons());
        due(8, () -> x.account(9), "changes");
        refused("1 0 0", () -> x.person(21, false), "person");
        refused("3 3 0", () -> x.friends(0, 3, 1), "friends");
        refused("6 9 0", () -> x.fact(2, 1), "fact");
        refused("9 0 0", () -> x.beam(0, 1, 1), "beam");
        refused("8 1 0", () -> x.remove(1), "remove");
        refused("5 7 0", () -> x.habit(0, 7), "habit");
        check.same("the text goes on", "2", run("r"));
        due(3, () -> x.account(4), "rounds");

        again();
        due(STATE, () -> x.undo(), "undo");
        due(STATE, () -> x.restore(), "restore");
        due(NONE, () -> x.restsIn(), "restsIn");
        due(NONE, () -> x.greatest(true), "greatest");
        due(NONE, () -> x.reason(0), "reason");
        due(ARITHMETIC, () -> x.meanTilt(), "meanTilt");
        due(ARITHMETIC, () -> x.plumbShare(), "plumbShare");
        refused("10 0 0", () -> x.round(), "round");
        write("o+1;".repeat(15));
        due(STATE, () -> x.append('r'), "append");
        check.same("buffer", "60 -1", Answers.ofText(x));
    }

    private void exceptionsOfTexts() {
        sentence("Promise 30", "The buffer is empty afterwards, also if an exception is thrown.");
        richHouse();
        check.same("the text with what stood there", ARGUMENT, run("q"));
        check.same("buffer and fault", "0 2", Answers.ofText(x));
        check.same("reason", "8 1 1", reasons());
        refusedText("3 3 2", "r;r;p3*1");
        faultyText(6, "r;x0;r1;x0");
        check.same("reason", "3 3 2", reasons());
        due(9, () -> x.line(0), "the line goes on");
    }
}
