/** Promises 9 to 28, by answers that were worked out by hand from the document. */
public final class AskingsTest extends Bench {
    public static void main(String[] args) {
        AskingsTest test = new AskingsTest();
        test.promise9();
        test.promise10();
        test.promise11();
        test.promise12();
        test.promise13And14();
        test.promise15();
        test.promise16();
        test.promise17();
        test.promise18();
        test.promise19();
        test.promise20();
        test.promise21();
        test.promise22();
        test.promise23And24();
        test.promise25();
        test.promise26();
        test.promise27();
        test.promise28();
        test.fullHouse();
        test.check.close();
    }

    private void promise9() {
        fresh("promise 9");
        given("o+20;s-20;o+3;h0=1;h1=2;f01*4;f12*5;p2*1;p2*1");
        check.same("person 0", "20 1 0 9 1 4 0 0", numbers(0));
        check.same("person 1", "-20 2 1 4 2 9 0 0", numbers(1));
        check.same("person 2", "1 0 0 10 1 5 2 0", numbers(2));
        // 0: (40 - 80) / 6 = -6, by 9; 1: (-60 + 80 + 5) / 12 = 2, by 4; 2: (1 - 100) / 6 = -16, by 10.
        given("r");
        check.same("person 0", "11 0 0 10 1 4 0 9", numbers(0));
        check.same("person 1", "-16 1 1 4 2 9 0 4", numbers(1));
        check.same("person 2", "-9 0 0 10 1 5 2 10", numbers(2));
        // 0: (11 - 64) / 5 = -10, by 10; 1: (-32 + 44 - 45) / 11 = -3, by 4; 2: (-9 - 80) / 6 = -14, by 5.
        given("r");
        check.same("person 0", "1 0 0 10 1 4 0 19", numbers(0));
        check.same("person 1", "-12 0 1 5 2 9 0 8", numbers(1));
        check.same("person 2", "-14 0 0 10 1 5 2 15", numbers(2));
        // 0: (1 - 48) / 5 = -9, by 10; 1: (-12 + 4 - 70) / 10 = -7, by 5; 2: (-14 - 60) / 6 = -12, back by 2.
        given("r");
        check.same("person 0", "-9 0 0 10 1 4 0 29", numbers(0));
        check.same("person 2", "-12 0 0 10 1 5 2 17", numbers(2));
        given("h1=9");
        due(0, () -> x.personOf(1, 3), "half of 1");
        due(ARGUMENT, () -> x.personOf(0, 8), "what 8");
        due(INDEX, () -> x.personOf(3, 8), "person 3");
        for (int odd : ODD) {
            due(ARGUMENT, () -> x.personOf(0, odd), "what " + odd);
            due(INDEX, () -> x.personOf(odd, odd), "person " + odd);
        }
    }

    private void promise10() {
        fresh("promise 10");
        given("o+1;o+1;o+1;f01*4;f21*9");
        check.same("weights", "4 4 9 9 0 0", x.weight(0, 1) + " " + x.weight(1, 0) + " " + x.weight(1, 2) + " "
                + x.weight(2, 1) + " " + x.weight(0, 2) + " " + x.weight(1, 1));
        due(INDEX, () -> x.weight(3, 0), "one");
        due(INDEX, () -> x.weight(0, 3), "other");
        due(INDEX, () -> x.weight(3, 3), "both");
        for (int odd : ODD) {
            due(INDEX, () -> x.weight(odd, 0), "one " + odd);
            due(INDEX, () -> x.weight(0, odd), "other " + odd);
        }
    }

    private void promise11() {
        fresh("promise 11");
        given("o+20;o-20;o+5;b20<40;b12<24;r;r");
        check.same("beam 0", "0 2 40 0 15", beamNumbers(0));
        check.same("beam 1", "1 2 24 2 25", beamNumbers(1));
        due(ARGUMENT, () -> x.beamOf(0, 5), "what 5");
        due(INDEX, () -> x.beamOf(2, 5), "beam 2");
        for (int odd : ODD) {
            due(ARGUMENT, () -> x.beamOf(0, odd), "what " + odd);
            due(INDEX, () -> x.beamOf(odd, odd), "beam " + odd);
        }
    }

    private void promise12() {
        fresh("promise 12");
        given("o+20;o-1;o+0;o+1");
        check.same("leans", "1 -1 0 1", x.lean(0) + " " + x.lean(1) + " " + x.lean(2) + " " + x.lean(3));
        due(INDEX, () -> x.lean(4), "person 4");
        for (int odd : ODD) {
            due(INDEX, () -> x.lean(odd), "person " + odd);
        }
    }

    private void promise13And14() {
        fresh("promises 13 and 14");
        given("o+20;s-20;o+7;o-3;h0=2;f01*4;f02*1;h3=9;f13*9");
        // 0: (60 - 80 + 7) / 8 = -1; 1: (-20 + 80 - 27) / 14 = 2; 2: (7 + 20) / 2 = 13; 3: (-30 - 180) / 19 = -11.
        int[] means = {-1, 2, 13, -11};
        for (int person = 0; person < 4; person++) {
            int who = person;
            due(means[person], () -> x.mean(who), "mean " + person);
            due(means[person], () -> x.meanAgain(who), "meanAgain " + person);
        }
        given("o-17");
        due(-17, () -> x.mean(4), "mean without friends");
        due(-17, () -> x.meanAgain(4), "meanAgain without friends");
        due(INDEX, () -> x.mean(5), "mean 5");
        due(INDEX, () -> x.meanAgain(5), "meanAgain 5");
        for (int odd : ODD) {
            due(INDEX, () -> x.mean(odd), "mean " + odd);
            due(INDEX, () -> x.meanAgain(odd), "meanAgain " + odd);
        }
    }

    private void promise15() {
        fresh("promise 15");
        given("o+20;s-20;o+7;o-3;h0=2;f01*4;f02*1;h3=9;f13*9");
        // Means -1, 2, 13, -11; steps 8, 5, 10, 1.
        int[] moves = {-8, 5, 6, -1};
        for (int person = 0; person < 4; person++) {
            int who = person;
            due(moves[person], () -> x.wouldMove(who), "wouldMove " + person);
        }
        given("h1=9;o+9");
        due(0, () -> x.wouldMove(1), "a step of 0");
        due(0, () -> x.wouldMove(4), "without friends");
        check.same("nothing moved", "20 0", x.personOf(0, 0) + " " + x.account(4));
        due(INDEX, () -> x.wouldMove(5), "person 5");
        for (int odd : ODD) {
            due(INDEX, () -> x.wouldMove(odd), "person " + odd);
        }
    }

    private void promise16() {
        fresh("promise 16");
        given("o+10;o+4;o-2;o+10;o+16;f03*9");
        due(NONE, () -> x.puller(0), "a friend with the same tilt");
        due(NONE, () -> x.puller(1), "no friends");
        given("f01*2;f02*1;f04*2");
        // 1: 2 * 6, 2: 1 * 12, 4: 2 * 6.
        due(1, () -> x.puller(0), "of several the lowest");
        given("f04*3");
        due(4, () -> x.puller(0), "18");
        due(0, () -> x.puller(2), "the other way");
        due(INDEX, () -> x.puller(5), "person 5");
        given("o-3;f25*1");
        due(2, () -> x.puller(5), "a weight of 1 by 1");
        for (int odd : ODD) {
            due(INDEX, () -> x.puller(odd), "person " + odd);
        }
    }

    private void promise17() {
        fresh("promise 17");
        given("o+10;o-4;o+0;h1=5;h2=9");
        check.same("forces", "1 9 0 8 0 6", x.force(0, 1) + " " + x.force(0, 9) + " " + x.force(1, 1) + " "
                + x.force(1, 9) + " " + x.force(2, 3) + " " + x.force(2, 9));
        given("h1=2");
        due(1, () -> x.force(1, 1), "a third of 2 is 0");
        given("h1=7");
        due(0, () -> x.force(1, 1), "not below 0");
        due(ARGUMENT, () -> x.force(0, 0), "strength 0");
        due(ARGUMENT, () -> x.force(0, 10), "strength 10");
        due(INDEX, () -> x.force(3, 0), "person 3");
        for (int odd : ODD) {
            due(ARGUMENT, () -> x.force(0, odd), "strength " + odd);
            due(INDEX, () -> x.force(odd, odd), "person " + odd);
        }
    }

    private void promise18() {
        fresh("promise 18");
        given("o+10;o-10;o+0;h1=5;h2=9");
        check.same("facts", "10 5 4 2 2", x.factsFor(0, 1) + " " + x.factsFor(0, 2) + " " + x.factsFor(0, 3) + " "
                + x.factsFor(0, 9) + " " + x.factsFor(0, 5));
        check.same("facts", "10 5 2", x.factsFor(1, 2) + " " + x.factsFor(1, 3) + " " + x.factsFor(1, 9));
        due(NONE, () -> x.factsFor(1, 1), "no force");
        due(0, () -> x.factsFor(2, 1), "plumb, no force");
        due(0, () -> x.factsFor(2, 9), "plumb");
        due(ARGUMENT, () -> x.factsFor(2, 0), "strength 0");
        due(ARGUMENT, () -> x.factsFor(1, 10), "strength 10");
        due(INDEX, () -> x.factsFor(3, 0), "person 3");
        for (int odd : ODD) {
            due(ARGUMENT, () -> x.factsFor(0, odd), "strength " + odd);
            due(INDEX, () -> x.factsFor(odd, odd), "person " + odd);
        }
    }

    private void promise19() {
        fresh("promise 19");
        given("o+20;s-20;o+3;f01*4;f02*1;f12*7;h2=6;b01<0");
        String before = people() + beams();
        int[] tilts = new int[31];
        for (int rounds = 0; rounds <= 30; rounds++) {
            tilts[rounds] = x.tiltIn(1, rounds);
        }
        check.same("nothing changed", before, people() + beams());
        for (int rounds = 0; rounds <= 30; rounds++) {
            check.same("tilt in " + rounds, x.personOf(1, 0), tilts[rounds]);
            x.round();
        }
        due(ARGUMENT, () -> x.tiltIn(0, 31), "31 rounds");
        due(INDEX, () -> x.tiltIn(3, 31), "person 3");
        for (int odd : ODD) {
            due(ARGUMENT, () -> x.tiltIn(0, odd), "rounds " + odd);
            due(INDEX, () -> x.tiltIn(odd, odd), "person " + odd);
        }
    }

    private void promise20() {
        fresh("promise 20");
        due(NONE, () -> x.restsIn(), "nobody");
        given("o+20");
        due(0, () -> x.restsIn(), "alone");
        given("o-20;f01*3");
        // 20 and -20, 10 and -10, 0 and 0.
        due(2, () -> x.restsIn(), "two friends");
        check.same("nothing changed", "o+20#0 1*3 | o-20#0 0*3", people());
        given("r");
        due(1, () -> x.restsIn(), "behind one round");
        given("r");
        due(0, () -> x.restsIn(), "behind two rounds");

        fresh("promise 20, never");
        given("o+14;s+15;s+16;h0=1;h1=6;h2=9;f01*9;f02*5;f12*8");
        // 0: 243 / 16 = 15, 1: 359 / 24 = 14, and then 0: 236 / 16 = 14, 1: 361 / 24 = 15; 2 has no step.
        due(NONE, () -> x.restsIn(), "to and fro");
        given("r");
        check.same("persons", "15 14 16", x.personOf(0, 0) + " " + x.personOf(1, 0) + " " + x.personOf(2, 0));
        given("r");
        check.same("persons", "14 15 16", x.personOf(0, 0) + " " + x.personOf(1, 0) + " " + x.personOf(2, 0));
        due(14, () -> x.tiltIn(0, 30), "behind 30 rounds");
        due(15, () -> x.tiltIn(0, 29), "behind 29 rounds");
        given("b02<1;b12<1");
        // Beam 0 creaks in each 2nd round, beam 1 in each 1st of two.
        due(6, () -> x.breaksIn(0), "beam 0");
        due(5, () -> x.breaksIn(1), "beam 1");

        fresh("promise 20, a stubborn one without a step");
        given("s+20;o+20;f01*9;h0=9;p1*1");
        // 1: (19 + 180) / 10 = 19.
        due(0, () -> x.restsIn(), "at rest");
    }

    private void promise21() {
        fresh("promise 21");
        given("o+20;o-20;o+0;b01<39;b02<20;b12<0");
        due(3, () -> x.breaksIn(0), "beam 0");
        due(NONE, () -> x.breaksIn(1), "beam 1");
        due(3, () -> x.breaksIn(2), "beam 2");
        given("r;r");
        due(1, () -> x.breaksIn(0), "beam 0, creaked twice");
        check.same("nothing changed", "0-1<39!! 0-2<20 1-2<0!!", beams());
        due(INDEX, () -> x.breaksIn(3), "beam 3");
        for (int odd : ODD) {
            due(INDEX, () -> x.breaksIn(odd), "beam " + odd);
        }

        fresh("promise 21, tilts that meet");
        given("o+20;o-20;f01*3;b01<19");
        // Differences 20, 0, 0, ...: it creaks once.
        due(NONE, () -> x.breaksIn(0), "one creak");
        given("f01*0;r;r;f01*3");
        due(1, () -> x.breaksIn(0), "a third creak");

        fresh("promise 21, a slow one");
        given("o+1;s+1;s+20;h1=8;h2=9;f12*9;b01<4");
        // 1 goes by 1 in each round: it creaks in the rounds 5, 6 and 7.
        due(7, () -> x.breaksIn(0), "at first");
        given("r;r;r;r;r");
        due(2, () -> x.breaksIn(0), "behind 5 rounds");

        fresh("promise 21, tilts that part");
        given("o+1;o+1;o+20;f12*2;b01<1;h0=9");
        // 1: (1 + 40) / 3 = 13, by 10 to 11.
        due(3, () -> x.breaksIn(0), "parting");
    }

    private void promise22() {
        fresh("promise 22");
        given("o+20;o-20;o+3;o+0;o+1;o+9;f01*9;f02*1;f03*1;f24*1 f35*1");
        int[] camps = {21, 2, 21, 0, 21, 32};
        for (int person = 0; person < 6; person++) {
            int who = person;
            due(camps[person], () -> x.camp(who), "camp " + person);
        }
        due(INDEX, () -> x.camp(6), "person 6");
        for (int odd : ODD) {
            due(INDEX, () -> x.camp(odd), "person " + odd);
        }
        fresh("promise 22, a long way");
        given("o-1;o-1;o-1;o-1;o-1;o-1 f05*1;f54*1;f43*1;f32*1;f21*1");
        for (int person = 0; person < 6; person++) {
            int who = person;
            due(63, () -> x.camp(who), "camp " + person);
        }
    }

    private void promise23And24() {
        fresh("promises 23 and 24");
        bothCamps(0);
        given("o+0");
        bothCamps(0);
        given("o+20;o-20;o+3;o-1;o+9");
        bothCamps(5);
        given("f12*1");
        bothCamps(5);
        given("f13*9;f01*1;f05*1");
        bothCamps(4);
        given("f35*1");
        bothCamps(3);
        given("f15*1");
        bothCamps(3);
        given("f24*1");
        bothCamps(2);
        given("f13*0");
        bothCamps(2);
        given("f15*0");
        bothCamps(3);

        fresh("promises 23 and 24, from the first on");
        given("o-1;o-2;o+3;o+4");
        bothCamps(4);
        given("f01*1");
        bothCamps(3);
        given("f23*1;f12*9");
        bothCamps(2);
    }

    private void bothCamps(int want) {
        due(want, () -> x.camps(), "camps");
        due(want, () -> x.campsAgain(), "campsAgain");
    }

    private void promise25() {
        fresh("promise 25");
        due(NONE, () -> x.greatest(true), "nobody, left");
        due(NONE, () -> x.greatest(false), "nobody, right");
        given("o+1");
        due(0, () -> x.greatest(false), "right, the first one");
        given("p0*1;s-1");
        due(NONE, () -> x.greatest(false), "right");
        due(1, () -> x.greatest(true), "left, by 1");

        fresh("promise 25, of several");
        given("o+0;o+3");
        due(NONE, () -> x.greatest(true), "left");
        due(1, () -> x.greatest(false), "right");
        given("o-4;o+5;o-4;o+5");
        due(2, () -> x.greatest(true), "left, the lowest");
        due(3, () -> x.greatest(false), "right, the lowest");
        given("p2*1");
        due(4, () -> x.greatest(true), "left");
    }

    private void promise26() {
        fresh("promise 26");
        due(ARGUMENT, () -> x.ranked(4, 0), "measure 4, nobody");
        due(NONE, () -> x.ranked(0, 0), "nobody");
        given("o-3;o+3;o+0;o-9;h1=4;h3=4;h2=1;f02*5;f23*1;f01*1");
        check.same("by tilt", "1203", ranks(0));
        check.same("by tilt without sign", "3012", ranks(1));
        check.same("by habit", "1320", ranks(2));
        check.same("by weights", "0213", ranks(3));
        due(NONE, () -> x.ranked(0, 4), "place 4");
        due(ARGUMENT, () -> x.ranked(4, 4), "measure 4");
        for (int odd : ODD) {
            due(ARGUMENT, () -> x.ranked(odd, odd), "measure " + odd);
            due(NONE, () -> x.ranked(3, odd), "place " + odd);
        }
    }

    private void promise27() {
        fresh("promise 27");
        due(NONE, () -> x.weakest(0), "no beams");
        given("o+10;o-10;o+0;o+5;b01<22;b02<12;b12<8;b13<17;b23<7");
        // Spare: 2, 2, -2, 2, 2.
        check.same("order", "20134", beamRanks());
        given("r;f01*9;h0=9;h1=9 b03<9");
        check.same("beams", "0-1<22 0-2<12 1-2<8! 1-3<17 2-3<7 0-3<9", beams());
        // 0 by 1 to 9, 1 by 1 to -9: spare 4, 3, -1!!, 3, 2, 5.
        given("r");
        check.same("order", "241305", beamRanks());

        fresh("promise 27, creaks");
        given("o+10;o+0;o+9;b12<9;b01<9;b02<1;r;p0*1");
        check.same("beams", "1-2<9 0-1<9! 0-2<1", beams());
        // Spare: 0, 0, 1.
        check.same("order", "102", beamRanks());
        due(NONE, () -> x.weakest(3), "place 3");
        for (int odd : ODD) {
            due(NONE, () -> x.weakest(odd), "place " + odd);
        }
    }

    private void promise28() {
        fresh("promise 28");
        due(true, () -> x.isEven(), "nobody");
        given("o+20;o-20;s+0;f01*9;f20*1;h1=9;r");
        due(true, () -> x.isEven(), "three");
        given("r;r;p1*9");
        due(true, () -> x.isEven(), "behind rounds");
    }

    /** Six persons, all friends, and six beams: where a step too far would fall out of a row. */
    private void fullHouse() {
        fresh("a full house");
        given("o+20;o-20;s+10;s-10;o+5;o+0 f01*1;f02*2;f03*3;f04*4;f05*5;f12*6;f13*7;f14*8;f15*9;f23*1");
        given("f24*2;f25*3;f34*4;f35*5;f45*6 b50<40;b51<40;b52<40;b53<40;b54<9;b43<9");
        // 5: (20 * 5 - 20 * 9 + 10 * 3 - 10 * 5 + 5 * 6) / 29 = -70 / 29.
        due(-2, () -> x.mean(5), "mean");
        due(-2, () -> x.meanAgain(5), "meanAgain");
        due(-2, () -> x.wouldMove(5), "wouldMove");
        due(28, () -> x.personOf(5, 5), "weights");
        due(5, () -> x.personOf(5, 4), "friends");
        due(1, () -> x.puller(5), "puller");
        due(0, () -> x.camp(5), "camp");
        due(21, () -> x.camp(4), "camp");
        bothCamps(2);
        check.same("order", "024531", ranks(0));
        check.same("order", "012345", ranks(1));
        check.same("order", "012345", ranks(2));
        // Weights together: 15, 31, 14, 20, 24, 28.
        check.same("order", "154302", ranks(3));
        // Spare: 20, 20, 30, 30, 4, -6.
        check.same("order", "540123", beamRanks());
        due(true, () -> x.isEven(), "isEven");
        due(15, () -> x.account(1), "pairs");
        due(6, () -> x.round(), "round");
        due(5, () -> x.remove(0), "remove");
        due(4, () -> x.remove(4), "remove the last");
        check.same("beams", "1-5<40 2-5<40 3-5<40 4-5<9", beams());
    }
}
