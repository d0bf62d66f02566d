import java.util.function.IntFunction;

/** The sentences of promises 9 to 28 that name a bound or an exception. */
public final class AskingsBoundsTest extends Bench {
    private static final String NO_PERSON = "if there is no such person";
    private static final String FIRST = "If several conditions of a method are fulfilled, the one that is listed first";

    public static void main(String[] args) {
        AskingsBoundsTest test = new AskingsBoundsTest();
        test.personsAskedFor();
        test.promise9();
        test.promise10();
        test.promise11();
        test.promise12();
        test.promises13And14();
        test.promise15();
        test.promise16();
        test.promise16Several();
        test.promise17();
        test.promise18();
        test.promise19();
        test.promise20();
        test.promise21();
        test.promise22();
        test.promises23And24();
        test.promise25();
        test.promise26();
        test.promise26Several();
        test.promise27();
        test.promise28();
        test.check.close();
    }

    /** Nobody there, one there, six there: which person is still taken, and which is not. */
    private void personsAskedFor() {
        personAskedFor(9, person -> x.personOf(person, 0));
        personAskedFor(10, person -> x.weight(person, 0));
        personAskedFor(10, person -> x.weight(0, person));
        personAskedFor(12, person -> x.lean(person));
        personAskedFor(13, person -> x.mean(person));
        personAskedFor(14, person -> x.meanAgain(person));
        personAskedFor(15, person -> x.wouldMove(person));
        personAskedFor(17, person -> x.force(person, 1));
        personAskedFor(18, person -> x.factsFor(person, 1));
        personAskedFor(19, person -> x.tiltIn(person, 1));
        personAskedFor(22, person -> x.camp(person));
        personAskedFor(33, person -> x.line(person));
    }

    private void personAskedFor(int promise, IntFunction<Object> ask) {
        sentence("Promise " + promise, NO_PERSON);
        due(INDEX, () -> ask.apply(0), "person 0 of none");
        for (int count = 1; count <= 6; count++) {
            int behind = count;
            x.person(count, false);
            boolean isThere = !Check.told(() -> ask.apply(behind - 1)).startsWith(THROWS);
            check.same("person " + (count - 1) + " of " + count + " is there", true, isThere);
            if (count == 1 || count == 6) {
                due(INDEX, () -> ask.apply(behind), "person " + count + " of " + count);
            }
        }
        check.same("person 0 of 6 is there", false, Check.told(() -> ask.apply(0)).startsWith(THROWS));
        again();
        called("o+1;o+2");
        for (int odd : ODD) {
            due(INDEX, () -> ask.apply(odd), "person " + odd);
        }
        due(INDEX, () -> ask.apply(32), "person 32");
    }

    private void promise9() {
        sentence("Promise 9", "if what is not from 0 to 7");
        called("o+20;s-20;f01*3;h1=2;p0*1;r");
        // 0: (19 - 60) / 4 = -10, by 10 to 9; 1: (-60 + 57) / 6 = 0, by 4 to -16.
        check.same("0 to 7", "9 0 0 10 1 3 1 10", numbers(0));
        check.same("0 to 7", "-16 1 1 4 1 3 0 4", numbers(1));
        due(ARGUMENT, () -> x.personOf(0, 8), "what 8");
        due(ARGUMENT, () -> x.personOf(1, -1), "what -1");
        for (int odd : ODD) {
            due(ARGUMENT, () -> x.personOf(0, odd), "what " + odd);
        }

        sentence("Terms", FIRST);
        called("o+1");
        due(INDEX, () -> x.personOf(1, 8), "no such person, and no such number");
        due(INDEX, () -> x.personOf(-1, -1), "no such person, and no such number");
        due(ARGUMENT, () -> x.personOf(0, 8), "no such number");

        sentence("Promise 9", "6 for the facts told so far");
        called("o+20;o+5");
        due(0, () -> x.personOf(0, 6), "none");
        called("p0*9;p0*9;p0*9");
        check.same("three of one", "3 0", x.personOf(0, 6) + " " + x.personOf(1, 6));
        refused("6 0 0", () -> x.fact(0, 1), "a refused one");
        check.same("a refused one does not count", "3 0", x.personOf(0, 6) + " " + x.personOf(1, 6));

        sentence("Promise 9", "7 for how far the tilt went in rounds so far");
        called("o+20;o-20;f01*3");
        due(0, () -> x.personOf(0, 7), "no round");
        called("r");
        due(10, () -> x.personOf(0, 7), "20 to 10");
        called("p1*9;r");
        // 0: (10 - 3) / 4 = 1, by 9; 1: (-1 + 30) / 4 = 7, by 8: a fact is no round.
        check.same("behind a fact and a round", "19 18", x.personOf(0, 7) + " " + x.personOf(1, 7));
        // 0: (1 + 21) / 4 = 5, and so back by 4; 1: (7 + 3) / 4 = 2, by 5.
        called("r");
        check.same("to and fro", "23 23", x.personOf(0, 7) + " " + x.personOf(1, 7));
        x.undo();
        check.same("undone", "19 18", x.personOf(0, 7) + " " + x.personOf(1, 7));
    }

    private void promise10() {
        sentence("Promise 10", "if there is no such person, for either");
        called("o+1;o+2;f01*9");
        due(9, () -> x.weight(0, 1), "both are there");
        due(9, () -> x.weight(1, 0), "the other way");
        due(INDEX, () -> x.weight(0, 2), "the other is not there");
        due(INDEX, () -> x.weight(2, 0), "the one is not there");
        due(INDEX, () -> x.weight(2, 2), "neither is there");
        due(INDEX, () -> x.weight(0, -1), "the other is -1");
        due(INDEX, () -> x.weight(-1, 0), "the one is -1");

        sentence("Promise 10", "Returns the weight, 0 if they are none, or are one.");
        called("o+1;o+2;o+3;o+4;o+5;o+6;f01*9;f50*1");
        check.same("friends", "9 1 1", x.weight(1, 0) + " " + x.weight(0, 5) + " " + x.weight(5, 0));
        check.same("none", "0 0", x.weight(0, 2) + " " + x.weight(5, 1));
        check.same("one", "0 0", x.weight(0, 0) + " " + x.weight(5, 5));
    }

    private void promise11() {
        sentence("Promise 11", "if there is no such beam");
        called("o+1;o+2;o+3;o+4");
        due(INDEX, () -> x.beamOf(0, 0), "beam 0 of none");
        called("b01<1");
        due(0, () -> x.beamOf(0, 0), "beam 0 of one");
        due(INDEX, () -> x.beamOf(1, 0), "beam 1 of one");
        due(INDEX, () -> x.beamOf(-1, 0), "beam -1");
        called("b02<1;b03<1;b12<1;b13<1;b32<1");
        due(2, () -> x.beamOf(5, 0), "beam 5 of six");
        due(INDEX, () -> x.beamOf(6, 0), "beam 6 of six");
        again();
        called("o+1;o+2;b01<1");
        for (int odd : ODD) {
            due(INDEX, () -> x.beamOf(odd, 0), "beam " + odd);
        }

        sentence("Promise 11", "if what is not from 0 to 4");
        called("o+20;o-20;o+5;b20<3;b21<24;r;r");
        check.same("0 to 4", "0 2 3 2 15", beamNumbers(0));
        check.same("0 to 4", "1 2 24 2 25", beamNumbers(1));
        due(ARGUMENT, () -> x.beamOf(0, 5), "what 5");
        due(ARGUMENT, () -> x.beamOf(1, -1), "what -1");
        for (int odd : ODD) {
            due(ARGUMENT, () -> x.beamOf(0, odd), "what " + odd);
        }

        sentence("Terms", FIRST);
        called("o+20;o-20;b01<3");
        due(INDEX, () -> x.beamOf(1, 5), "no such beam, and no such number");
        due(INDEX, () -> x.beamOf(-1, -1), "no such beam, and no such number");
        due(ARGUMENT, () -> x.beamOf(0, 5), "no such number");

        sentence("Promise 11", "4 for by how much the tilts of its persons differ");
        called("o+20;o-20;o+20;b01<40;b02<40");
        check.same("most and least", "40 0", x.beamOf(0, 4) + " " + x.beamOf(1, 4));
        called("p0*1");
        check.same("behind a fact", "39 1", x.beamOf(0, 4) + " " + x.beamOf(1, 4));
    }

    private void promise12() {
        sentence("Promise 12", "Returns -1 to the left, 0 if it is plumb, 1 to the right.");
        called("o-20;o-1;o+0;o+1;o+20");
        check.same("leans", "-1 -1 0 1 1",
                x.lean(0) + " " + x.lean(1) + " " + x.lean(2) + " " + x.lean(3) + " " + x.lean(4));
        called("p1*1;p3*1;p0*9");
        check.same("behind facts", "-1 0 0 0 1",
                x.lean(0) + " " + x.lean(1) + " " + x.lean(2) + " " + x.lean(3) + " " + x.lean(4));
    }

    private void promises13And14() {
        sentence("Promises 13 and 14", "Returns the same by a second way");
        // The own tilt of 1, a weight of 1 and the habit 0: by 2; a friend of -1, -2, -3, -4.
        int[][] means = {{1, 1}, {0, 0}, {-1, 0}, {-2, 0}, {-3, -1}, {-4, -1}, {-5, -2}};
        for (int[] mean : means) {
            again();
            called("o+1");
            x.person(mean[0], true);
            called("f01*1");
            due(mean[1], () -> x.mean(0), "mean with a friend of " + mean[0]);
            due(mean[1], () -> x.meanAgain(0), "meanAgain with a friend of " + mean[0]);
        }
        again();
        called("o+20;o-20;o+20;o-20;o+19;o-20;h5=9;f50*9;f51*9;f52*9;f53*9;f54*9");
        // (-200 + 180 - 180 + 180 - 180 + 171) / 55 = -29 / 55.
        due(0, () -> x.mean(5), "mean of six");
        due(0, () -> x.meanAgain(5), "meanAgain of six");
        called("f50*5");
        // (-200 + 100 - 180 + 180 - 180 + 171) / 51 = -109 / 51.
        due(-2, () -> x.mean(5), "mean of six");
        due(-2, () -> x.meanAgain(5), "meanAgain of six");
    }

    private void promise15() {
        sentence("Promise 15", "Returns by how much, below 0 if it would become less.");
        called("o+20;o-20;f01*3");
        check.same("less and greater", "-10 10", x.wouldMove(0) + " " + x.wouldMove(1));
        called("r");
        check.same("less and greater", "-10 10", x.wouldMove(0) + " " + x.wouldMove(1));
        called("r");
        check.same("neither", "0 0", x.wouldMove(0) + " " + x.wouldMove(1));
        called("s+1;f02*1");
        // (0 + 0 + 1) / 5, and (1 + 0) / 2 less 1.
        check.same("0 and -1", "0 -1", x.wouldMove(0) + " " + x.wouldMove(2));
    }

    private void promise16() {
        sentence("Promise 16", NO_PERSON);
        due(INDEX, () -> x.puller(0), "person 0 of none");
        called("o+1;o+2;f01*1");
        due(0, () -> x.puller(1), "person 1 of two");
        due(INDEX, () -> x.puller(2), "person 2 of two");
        called("o+3;o+4;o+5;o+6;f05*1;f45*2");
        check.same("persons 0 and 5 of six", "5 0", x.puller(0) + " " + x.puller(5));
        due(INDEX, () -> x.puller(6), "person 6 of six");
        for (int odd : ODD) {
            due(INDEX, () -> x.puller(odd), "person " + odd);
        }

        sentence("Promise 16", "if the person has no friends, or all have the same tilt as the person");
        called("o+3;o+4;o+3;o+3");
        due(NONE, () -> x.puller(0), "no friends");
        called("f02*9");
        due(NONE, () -> x.puller(0), "one, of the same tilt");
        called("f03*9");
        due(NONE, () -> x.puller(0), "two, of the same tilt");
        called("f01*1");
        due(1, () -> x.puller(0), "one of another tilt");
        called("f01*0");
        due(NONE, () -> x.puller(0), "no friend any more");
        called("f01*1;p1*1");
        due(NONE, () -> x.puller(0), "of the same tilt by a fact");
        called("p0*1");
        due(2, () -> x.puller(0), "the same tilts, but the person");
    }

    private void promise16Several() {
        sentence("Promise 16", "by the weight times what the tilts differ by, of several the lowest");
        called("o+0;o+6;o-4;o+3;f03*4;f02*3;f01*2");
        due(1, () -> x.puller(0), "12, 12 and 12");
        called("f03*5");
        due(3, () -> x.puller(0), "12, 12 and 15");
        called("f02*4");
        due(2, () -> x.puller(0), "12, 16 and 15");
        called("f01*3");
        due(1, () -> x.puller(0), "18, 16 and 15");
        called("f01*0");
        due(2, () -> x.puller(0), "16 and 15");

        again();
        called("o+20;o-20;o-19;f02*9;f01*9");
        due(1, () -> x.puller(0), "360 and 351");
        due(0, () -> x.puller(1), "the other way");
        called("f01*8");
        due(2, () -> x.puller(0), "320 and 351");
    }

    private void promise17() {
        sentence("Promise 17", "if the strength is out of range");
        called("o+5;o+0");
        due(1, () -> x.force(0, 1), "strength 1");
        due(9, () -> x.force(1, 9), "strength 9");
        due(ARGUMENT, () -> x.force(0, 0), "strength 0");
        due(ARGUMENT, () -> x.force(1, 0), "strength 0, plumb");
        due(ARGUMENT, () -> x.force(0, 10), "strength 10");
        due(ARGUMENT, () -> x.force(1, 10), "strength 10, plumb");
        for (int odd : ODD) {
            due(ARGUMENT, () -> x.force(0, odd), "strength " + odd);
        }
        sentence("Terms", FIRST);
        called("o+5");
        due(INDEX, () -> x.force(1, 0), "no such person, and no such strength");
        due(INDEX, () -> x.force(-1, 10), "no such person, and no such strength");
        due(ARGUMENT, () -> x.force(0, 10), "no such strength");
    }

    private void promise18() {
        sentence("Promise 18", "if the strength is out of range");
        called("o+5;o+0;o+5;h2=9");
        due(5, () -> x.factsFor(0, 1), "strength 1");
        due(1, () -> x.factsFor(0, 9), "strength 9");
        due(ARGUMENT, () -> x.factsFor(0, 0), "strength 0");
        due(ARGUMENT, () -> x.factsFor(0, 10), "strength 10");
        for (int odd : ODD) {
            due(ARGUMENT, () -> x.factsFor(0, odd), "strength " + odd);
        }
        sentence("Terms", FIRST);
        called("o+0;o+5;h1=9");
        due(INDEX, () -> x.factsFor(2, 0), "no such person, and no such strength");
        due(ARGUMENT, () -> x.factsFor(0, 0), "no such strength, and plumb");
        due(ARGUMENT, () -> x.factsFor(0, 10), "no such strength, and plumb");
        due(ARGUMENT, () -> x.factsFor(1, 0), "no such strength, and no force");

        sentence("Promise 18", "if they would have no force, and it is not plumb");
        called("o+1;o+0;o-1;h0=9;h1=9;h2=9");
        due(NONE, () -> x.factsFor(0, 3), "no force");
        due(NONE, () -> x.factsFor(0, 1), "no force");
        due(NONE, () -> x.factsFor(2, 3), "no force, to the left");
        due(1, () -> x.factsFor(0, 4), "a force of 1");
        due(1, () -> x.factsFor(2, 4), "a force of 1, to the left");
        due(0, () -> x.factsFor(1, 3), "no force, but plumb");
        due(0, () -> x.factsFor(1, 4), "plumb");

        sentence("Promise 18", "Returns how many, 0 if it is plumb.");
        int[][] manyByTilt = {{20, 4}, {19, 4}, {18, 3}, {13, 3}, {12, 2}, {7, 2}, {6, 1}, {1, 1}, {0, 0}};
        for (int[] many : manyByTilt) {
            again();
            x.person(many[0], false);
            x.person(-many[0], false);
            called("h0=3;h1=3");
            due(many[1], () -> x.factsFor(0, 7), "of a force of 6, tilt " + many[0]);
            due(many[1], () -> x.factsFor(1, 7), "of a force of 6, tilt " + -many[0]);
            for (int fact = 0; fact < many[1]; fact++) {
                x.fact(0, 7);
            }
            due(0, () -> x.personOf(0, 0), "tilt behind as many facts");
        }
        again();
        called("o+20");
        due(20, () -> x.factsFor(0, 1), "the most");
    }

    private void promise19() {
        sentence("Promise 19", "if the rounds are not from 0 to 30");
        called("o+15;s-20;h0=9;f01*9");
        due(15, () -> x.tiltIn(0, 0), "0 rounds");
        due(14, () -> x.tiltIn(0, 1), "1 round");
        due(ARGUMENT, () -> x.tiltIn(0, -1), "-1 rounds");
        due(ARGUMENT, () -> x.tiltIn(0, 31), "31 rounds");
        for (int odd : ODD) {
            due(ARGUMENT, () -> x.tiltIn(0, odd), "rounds " + odd);
        }
        again();
        // The friend has no step; the mean is (10 * tilt + 9 * -20) / 19, so the tilt goes by 1 down to -20.
        called("o+20;s-20;h0=9;h1=9;f01*9");
        for (int rounds = 0; rounds <= 30; rounds++) {
            int passed = rounds;
            due(20 - passed, () -> x.tiltIn(0, passed), "in " + passed);
        }
        due(ARGUMENT, () -> x.tiltIn(0, 31), "31 rounds");
        due(20, () -> x.personOf(0, 0), "no round went by");

        sentence("Terms", FIRST);
        called("o+1");
        due(INDEX, () -> x.tiltIn(1, 31), "no such person, and 31 rounds");
        due(INDEX, () -> x.tiltIn(-1, -1), "no such person, and -1 rounds");
        due(ARGUMENT, () -> x.tiltIn(0, 31), "31 rounds");
    }

    private void promise20() {
        sentence("Promise 20", "Returns behind how many, 0 if none would move in the next one.");
        called("o+20;o-20");
        due(0, () -> x.restsIn(), "no friends");
        called("f01*3");
        due(2, () -> x.restsIn(), "20 to 10 to 0");
        called("r");
        due(1, () -> x.restsIn(), "10 to 0");
        called("r");
        due(0, () -> x.restsIn(), "at 0");
        again();
        called("o+20;s-20;h0=9;h1=9;f01*9");
        // 38 rounds by 1 to -18, as -19 would need a mean of (-180 - 180) / 19 = -18.
        due(38, () -> x.restsIn(), "a slow one");
        due(0, () -> x.account(4), "no round went by");

        sentence("Promise 20", "if it would not be behind 99 rounds, or nobody is there");
        due(NONE, () -> x.restsIn(), "nobody");
        called("o+14");
        due(0, () -> x.restsIn(), "one");
        // 0 and 1 change places for ever, 2 has no step.
        called("s+15;s+16;h0=1;h1=6;h2=9;f01*9;f02*5;f12*8");
        due(NONE, () -> x.restsIn(), "to and fro");
        called("f01*0;f02*0;f12*0");
        due(0, () -> x.restsIn(), "no friends any more");
        again();
        // The latest rest that a long search found: no house is known that rests behind 60 to 99 rounds.
        called("s+0;o+20;o+20;o+20;o+20;s+20;h0=9;h2=6;h3=6;h4=9;h5=7;f01*1;f12*9;f14*7;f23*9;f24*1;f25*1;f34*7");
        for (int left = 59; left >= 0; left--) {
            due(left, () -> x.restsIn(), "a late rest");
            x.round();
        }
    }

    private void promise21() {
        sentence("Promise 21", "if there is no such beam");
        called("o+20;o-20");
        due(INDEX, () -> x.breaksIn(0), "beam 0 of none");
        called("b01<0");
        due(3, () -> x.breaksIn(0), "beam 0 of one");
        due(INDEX, () -> x.breaksIn(1), "beam 1 of one");
        for (int odd : ODD) {
            due(INDEX, () -> x.breaksIn(odd), "beam " + odd);
        }

        sentence("Promise 21", "Returns in which, 1 for the next one.");
        called("o+20;o-20;b01<39");
        due(3, () -> x.breaksIn(0), "no creak so far");
        called("r;r");
        due(1, () -> x.breaksIn(0), "two creaks so far");
        called("r");
        due(INDEX, () -> x.breaksIn(0), "broken");

        sentence("Promise 21", "if it would not in 99 rounds");
        called("o+20;o-20;b01<40");
        due(NONE, () -> x.breaksIn(0), "as far apart as the limit");
        called("x0;b01<39");
        due(3, () -> x.breaksIn(0), "farther apart than the limit");
        called("f01*3");
        // 20 apart behind a round, and then 0.
        due(NONE, () -> x.breaksIn(0), "not any more");
        called("x0;b01<0");
        due(NONE, () -> x.breaksIn(0), "one creak");
        due(0, () -> x.account(4), "no round went by");
        again();
        // The latest break that a long search found: no beam is known that breaks in the rounds from 62 to 99.
        called("s+20;o+20;o+20;o-19;o+20;o+20;h0=6;h1=5;h3=9;h4=3;h5=8;f01*1;f14*9;f15*9;f24*9;f25*9;f34*1;b05<18");
        for (int left = 61; left >= 1; left--) {
            due(left, () -> x.breaksIn(0), "a late break");
            x.round();
        }
        due(INDEX, () -> x.breaksIn(0), "broken");
        due(61, () -> x.account(4), "rounds");
    }

    private void promise22() {
        sentence("Promise 22", "Returns the set of the persons in it, bit k for the person k, 0 if the person is in none.");
        called("o+1;o+0;o-1;o+1;o-20;o+20");
        check.same("alone", "1 0 4 8 16 32", camps());
        called("f05*1;f24*1;f01*9;f13*9;f02*9");
        check.same("friends", "33 0 20 8 20 33", camps());
        called("f35*1");
        check.same("one more", "41 0 20 41 20 41", camps());
        called("p0*1");
        check.same("plumb by a fact", "0 0 20 40 20 40", camps());
    }

    private void promises23And24() {
        sentence("Promises 23 and 24", "Returns how many camps there are");
        bothCamps(0, "nobody");
        called("o+0");
        bothCamps(0, "a plumb one");
        called("o+1;o+2;o+3;o-1;o-2");
        bothCamps(5, "no friends");
        called("f12*1");
        bothCamps(4, "two friends");
        called("f23*1");
        bothCamps(3, "three friends");
        called("f13*1");
        bothCamps(3, "three friends in a ring");
        called("f34*9;f45*1");
        bothCamps(2, "two to the left, and friends of both sides");
        called("f12*0");
        bothCamps(2, "the ring is open");
        called("f13*0");
        bothCamps(3, "one goes");
        called("p1*1");
        bothCamps(2, "and is plumb");
        again();
        called("o+1;o+1;o+1;o+1;o+1;o+1");
        bothCamps(6, "six");
        called("f45*1;f23*1;f01*1");
        bothCamps(3, "pairs");
        called("f14*1;f35*1");
        bothCamps(1, "all");
    }

    private void bothCamps(int want, String call) {
        due(want, () -> x.camps(), "camps, " + call);
        due(want, () -> x.campsAgain(), "campsAgain, " + call);
    }

    private void promise25() {
        sentence("Promise 25", "if nobody leans there");
        due(NONE, () -> x.greatest(true), "nobody, to the left");
        due(NONE, () -> x.greatest(false), "nobody, to the right");
        called("o+0");
        due(NONE, () -> x.greatest(true), "a plumb one, to the left");
        due(NONE, () -> x.greatest(false), "a plumb one, to the right");
        called("o+1");
        due(NONE, () -> x.greatest(true), "1, to the left");
        due(1, () -> x.greatest(false), "1, to the right");
        called("o-1");
        due(2, () -> x.greatest(true), "-1, to the left");
        called("p1*1;p2*1");
        due(NONE, () -> x.greatest(true), "plumb by a fact, to the left");
        due(NONE, () -> x.greatest(false), "plumb by a fact, to the right");

        sentence("Promise 25", "Returns the person who leans the most to a side, of several the lowest.");
        called("o+4;o+5;o+5;o-6;o-7;o-7");
        check.same("the lowest", "4 1", x.greatest(true) + " " + x.greatest(false));
        called("p4*1;p1*1");
        check.same("the other", "5 2", x.greatest(true) + " " + x.greatest(false));
        called("p5*1;p2*1");
        check.same("the lowest again", "3 0", x.greatest(true) + " " + x.greatest(false));
        again();
        called("o-20;o+20");
        check.same("the most", "0 1", x.greatest(true) + " " + x.greatest(false));
    }

    private void promise26() {
        sentence("Promise 26", "if there is no such measure");
        called("o+1;o-2;h0=3;f01*1");
        check.same("0 to 3", "0 1 0 0",
                x.ranked(0, 0) + " " + x.ranked(1, 0) + " " + x.ranked(2, 0) + " " + x.ranked(3, 0));
        due(ARGUMENT, () -> x.ranked(4, 0), "measure 4");
        due(ARGUMENT, () -> x.ranked(-1, 0), "measure -1");
        for (int odd : ODD) {
            due(ARGUMENT, () -> x.ranked(odd, 0), "measure " + odd);
        }

        sentence("Promise 26", "if there is no such place");
        for (int measure = 0; measure <= 3; measure++) {
            int by = measure;
            again();
            due(NONE, () -> x.ranked(by, 0), "place 0 of none");
            called("o+1");
            due(0, () -> x.ranked(by, 0), "place 0 of one");
            due(NONE, () -> x.ranked(by, 1), "place 1 of one");
            called("o+1;o+1;o+1;o+1;o+1");
            due(5, () -> x.ranked(by, 5), "place 5 of six");
            due(NONE, () -> x.ranked(by, 6), "place 6 of six");
            due(NONE, () -> x.ranked(by, -1), "place -1");
        }
        again();
        called("o+1;o+1");
        for (int odd : ODD) {
            due(NONE, () -> x.ranked(0, odd), "place " + odd);
        }

        sentence("Terms", FIRST);
        due(ARGUMENT, () -> x.ranked(4, 0), "no such measure, and no such place");
        due(ARGUMENT, () -> x.ranked(-1, -1), "no such measure, and no such place");
        due(NONE, () -> x.ranked(3, 0), "no such place");
    }

    private void promise26Several() {
        sentence("Promise 26", "Returns a person by a measure: the greatest first, of several the lowest.");
        called("o-20;o+0;o+20;o+0;o-1;o+1;h0=1;h3=9;h4=1;f51*9;f32*9;f04*1");
        check.same("tilt", "251340", ranks(0));
        check.same("tilt without its sign", "024513", ranks(1));
        check.same("habit", "304125", ranks(2));
        // Weights together: 1, 9, 9, 9, 1, 9.
        check.same("weights", "123504", ranks(3));
        called("f45*9");
        check.same("weights", "541230", ranks(3));
        called("f54*8");
        // Weights together: 1, 9, 9, 9, 9, 17.
        check.same("weights", "512340", ranks(3));
    }

    private void promise27() {
        sentence("Promise 27", "if there is no such place");
        called("o+1;o+2;o+3;o+4");
        due(NONE, () -> x.weakest(0), "place 0 of none");
        called("b01<1");
        due(0, () -> x.weakest(0), "place 0 of one");
        due(NONE, () -> x.weakest(1), "place 1 of one");
        due(NONE, () -> x.weakest(-1), "place -1");
        called("b02<9;b03<9;b12<9;b13<9;b32<40");
        due(5, () -> x.weakest(5), "place 5 of six");
        due(NONE, () -> x.weakest(6), "place 6 of six");
        again();
        called("o+1;o+2;b01<1");
        for (int odd : ODD) {
            due(NONE, () -> x.weakest(odd), "place " + odd);
        }

        sentence("Promise 27", "by how much its limit is more than its persons differ by: the least first");
        called("o+20;o-20;o+0;b01<40;b02<21;b12<18");
        // 0, 1 and -2.
        check.same("order", "201", beamRanks());
        called("x2;b12<21");
        // 0, 1 and 1.
        check.same("order", "012", beamRanks());
        again();
        called("o+20;o-20;o+20;b01<0;b02<40");
        check.same("-40 and 40", "01", beamRanks());

        sentence("Promise 27", "of several the one that creaked more, then the lowest");
        called("o+0;o+5;o+5;o+9;o+9");
        called("b01<6;b02<4;b03<8;r;b04<8");
        check.same("creaks", "0-1<6 0-2<4! 0-3<8! 0-4<8", beams());
        // 1, -1, -1, -1.
        check.same("order", "1230", beamRanks());
        called("r");
        check.same("creaks", "0-1<6 0-2<4!! 0-3<8!! 0-4<8!", beams());
        check.same("order", "1230", beamRanks());
        called("x1;b02<4");
        check.same("creaks", "0-1<6 0-3<8!! 0-4<8! 0-2<4", beams());
        check.same("order", "1230", beamRanks());
        called("x1;b03<8");
        check.same("creaks", "0-1<6 0-4<8! 0-2<4 0-3<8", beams());
        check.same("order", "1230", beamRanks());
        called("x1;b04<8;x0;b01<4");
        check.same("order", "0123", beamRanks());
        // The last one creaks alone, as 2 and 3 are farther apart by a fact to 3.
        again();
        called("o+9;o+9;o+9;o+9;b01<1;b12<1;b23<1;p3*2;r;p2*2");
        check.same("creaks", "0-1<1 1-2<1 2-3<1!", beams());
        // 1, -1, 1.
        check.same("order", "120", beamRanks());
    }

    private void promise28() {
        sentence("Promise 28", "whether weights of friends are the same both ways, and all tilts and habits are in their");
        due(true, () -> x.isEven(), "nobody");
        called("o-20;o+20;s-20;s+20;o+0;o+20;h0=9;f50*9;f51*1;f12*9");
        due(true, () -> x.isEven(), "the most and the least");
        for (int round = 0; round < 12; round++) {
            x.round();
            due(true, () -> x.isEven(), "behind a round");
        }
        called("f05*0;p3*9");
        due(true, () -> x.isEven(), "behind a fact");
        x.undo();
        due(true, () -> x.isEven(), "behind undo");
    }
}
