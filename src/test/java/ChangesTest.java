/** Promises 1 to 8, by answers that were worked out by hand from the document. */
public final class ChangesTest extends Bench {
    public static void main(String[] args) {
        ChangesTest test = new ChangesTest();
        test.promise1();
        test.promise2();
        test.promise3();
        test.promise4();
        test.promise4Beams();
        test.promise5();
        test.promise6();
        test.promise7();
        test.promise8();
        test.check.close();
    }

    private void promise1() {
        fresh("promise 1");
        for (int what = 0; what <= 10; what++) {
            int which = what;
            due(0, () -> x.account(which), "account " + what);
        }
        due(-1, () -> x.faultPosition(), "faultPosition");
        due(NONE, () -> x.reason(0), "reason");
        due(0, () -> x.camps(), "camps");
        due(0, () -> x.beams(), "beams");
        due(INDEX, () -> x.character(0), "character");
        due(STATE, () -> x.undo(), "undo");
        due(STATE, () -> x.restore(), "restore");
        due(INDEX, () -> x.personOf(0, 0), "personOf");
        due(INDEX, () -> x.beamOf(0, 0), "beamOf");
    }

    private void promise2() {
        fresh("promise 2");
        due(0, () -> x.person(-20, false), "the lowest tilt");
        due(1, () -> x.person(20, true), "the highest tilt");
        due(2, () -> x.person(0, true), "a plumb one");
        check.same("persons", "o-20#0 | s+20#0 | s0#0", people());
        refused("1 0 0", () -> x.person(21, true), "person 21");
        refused("1 0 0", () -> x.person(-21, false), "person -21");
        for (int odd : new int[] {Integer.MIN_VALUE, Integer.MAX_VALUE}) {
            refused("1 0 0", () -> x.person(odd, false), "person " + odd);
        }
        due(3, () -> x.person(1, false), "the 4th");
        due(4, () -> x.person(1, false), "the 5th");
        due(5, () -> x.person(1, false), "the 6th");
        refused("2 6 0", () -> x.person(1, false), "the 7th");
        refused("1 0 0", () -> x.person(21, false), "the 7th, out of range");
        due(6, () -> x.account(9), "changes");
    }

    private void promise3() {
        fresh("promise 3");
        refused("3 0 0", () -> x.friends(0, 0, 1), "friends of nobody");
        given("o+1;o+2;o+3");
        due(0, () -> x.friends(0, 1, 9), "first");
        due(9, () -> x.friends(1, 0, 1), "the other way");
        due(0, () -> x.friends(2, 1, 4), "another pair");
        check.same("persons", "o+1#0 1*1 | o+2#0 0*1 2*4 | o+3#0 1*4", people());
        due(1, () -> x.friends(0, 1, 0), "no friends");
        check.same("persons", "o+1#0 | o+2#0 2*4 | o+3#0 1*4", people());
        refused("5 0 0", () -> x.friends(0, 1, 0), "no friends again");
        refused("5 4 0", () -> x.friends(1, 2, 4), "the same weight");
        refused("5 4 0", () -> x.friends(2, 1, 4), "the same weight, the other way");
        refused("1 0 0", () -> x.friends(1, 2, 10), "too much weight");
        refused("1 0 0", () -> x.friends(1, 2, -1), "a weight below 0");
        refused("4 1 0", () -> x.friends(1, 1, 10), "with oneself");
        refused("4 2 0", () -> x.friends(2, 2, 0), "with oneself, no friends");
        refused("3 3 0", () -> x.friends(3, 3, 10), "of one who is not there");
        refused("3 3 0", () -> x.friends(2, 3, 1), "other is not there");
        refused("3 3 0", () -> x.friends(-1, 2, 1), "one is not there");
        for (int odd : ODD) {
            refused("3 3 0", () -> x.friends(odd, 0, 1), "friends " + odd);
            refused("3 3 0", () -> x.friends(0, odd, 1), "friends, other " + odd);
        }
    }

    private void promise4() {
        fresh("promise 4");
        refused("10 0 0", () -> x.round(), "round of nobody");
        given("o+20;o-20;f01*3");
        due(2, () -> x.round(), "both meet half way");
        check.same("persons", "o+10#0 1*3 | o-10#0 0*3", people());
        // mean 0: (10 - 30) / 4 = -5, mean 1: 5; by 15, but a step of 10.
        due(2, () -> x.round(), "both pass each other");
        check.same("persons", "o0#0 1*3 | o0#0 0*3", people());
        due(0, () -> x.round(), "at rest");
        check.same("persons", "o0#1 1*3 | o0#1 0*3", people());
        due(3, () -> x.account(4), "rounds");

        fresh("promise 4, habits");
        given("o+20;s+20;s+20;o-20;h0=5;h1=5;h2=9 f03*3;f13*3;f23*3;h3=9");
        // 0: (6*20 - 60) / 9 = 6, by 5; 1: the same, by 2; 2: step 0; 3: (-200 + 180) / 19 = -1, by 1.
        due(3, () -> x.round(), "by steps");
        check.same("persons", "o+15#4 3*3 | s+18#5 3*3 | s+20#9 3*3 | o-19#9 0*3 1*3 2*3", people());

        fresh("promise 4, a move by 3 and one by 2");
        given("o+3;o+2;o+0;o+0;h0=1;h1=1 f02*9;f13*9;h2=9;h3=9");
        // 0: 6 / 11 = 0, by 3; 1: 4 / 11 = 0, by 2; 2: 27 / 19 = 1, by 1; 3: 18 / 19 = 0.
        due(3, () -> x.round(), "round");
        check.same("persons", "o0#0 2*9 | o0#1 3*9 | o+1#9 0*9 | o0#9 1*9", people());

        fresh("promise 4, alone");
        given("s-7;h0=8 r");
        check.same("person", "s-7#9", people());
        given("r;r");
        check.same("person", "s-7#9", people());
    }

    private void promise4Beams() {
        fresh("promise 4, beams");
        given("o+20;o-20;o+0 b01<39;b02<20;b12<0");
        given("r");
        check.same("beams", "0-1<39! 0-2<20 1-2<0!", beams());
        given("r");
        check.same("beams", "0-1<39!! 0-2<20 1-2<0!!", beams());
        due(4, () -> x.account(6), "creaks");
        due(0, () -> x.account(7), "broken");
        due(0, () -> x.round(), "round");
        check.same("beams", "0-2<20", beams());
        due(6, () -> x.account(6), "creaks");
        due(2, () -> x.account(7), "broken");
        due(1, () -> x.account(2), "beams");

        fresh("promise 4, tilts behind the round");
        given("o+5;o-5;f01*9;b01<7");
        // Both go to -4 and 4: 8 is more than 7, and then -3 and 3.
        given("r");
        check.same("beams", "0-1<7!", beams());
        given("r");
        check.same("beams", "0-1<7!", beams());
    }

    private void promise5() {
        fresh("promise 5");
        refused("3 0 0", () -> x.fact(0, 1), "fact to nobody");
        given("o+20;s-7;o+0;h1=5;h0=3;h2=4");
        due(12, () -> x.fact(0, 9), "9 less 1");
        due(-6, () -> x.fact(1, 2), "2 less 1, from the left");
        due(0, () -> x.fact(1, 9), "not beyond 0");
        due(5, () -> x.fact(0, 8), "8 less 1");
        check.same("facts", "2 2 0", x.personOf(0, 6) + " " + x.personOf(1, 6) + " " + x.personOf(2, 6));
        refused("6 5 0", () -> x.fact(1, 1), "plumb");
        refused("6 4 0", () -> x.fact(2, 1), "plumb");
        refused("7 1 0", () -> x.fact(0, 1), "no force");
        refused("1 0 0", () -> x.fact(0, 0), "too weak");
        refused("1 0 0", () -> x.fact(0, 10), "too strong");
        refused("1 0 0", () -> x.fact(2, 10), "too strong, plumb");
        refused("3 3 0", () -> x.fact(3, 10), "not there");
        for (int odd : ODD) {
            refused("3 3 0", () -> x.fact(odd, 1), "fact to " + odd);
            refused("1 0 0", () -> x.fact(0, odd), "fact of " + odd);
        }
        due(4, () -> x.account(5), "facts told");
    }

    private void promise6() {
        fresh("promise 6");
        refused("3 0 0", () -> x.beam(0, 0, 1), "a beam of nobody");
        given("o+1;o+1;o+1;o+1;o+1");
        due(0, () -> x.beam(1, 0, 0), "the least limit");
        due(1, () -> x.beam(2, 4, 40), "the greatest limit");
        check.same("beams", "0-1<0 2-4<40", beams());
        refused("9 0 0", () -> x.beam(0, 1, 3), "twice");
        refused("9 1 0", () -> x.beam(4, 2, 3), "twice");
        refused("1 0 0", () -> x.beam(0, 1, 41), "limit 41");
        refused("1 0 0", () -> x.beam(0, 1, -1), "limit -1");
        refused("4 3 0", () -> x.beam(3, 3, 41), "with oneself");
        refused("3 5 0", () -> x.beam(5, 5, 41), "not there");
        for (int odd : ODD) {
            refused("3 5 0", () -> x.beam(odd, 0, 1), "beam " + odd);
            refused("3 5 0", () -> x.beam(0, odd, 1), "beam, other " + odd);
            refused("1 0 0", () -> x.beam(0, 2, odd), "beam, limit " + odd);
        }
        given("b02<1;b03<1;b04<1");
        due(5, () -> x.beam(1, 2, 1), "the 6th");
        refused("2 6 0", () -> x.beam(1, 3, 1), "the 7th");
        refused("9 5 0", () -> x.beam(1, 2, 1), "the 7th, twice");
    }

    private void promise7() {
        fresh("promise 7");
        refused("8 0 0", () -> x.remove(0), "nothing there");
        given("o+20;o-20;o+1;o+1;b01<0;b02<2;b03<3;b12<4;r");
        check.same("beams", "0-1<0! 0-2<2! 0-3<3! 1-2<4!", beams());
        given("r;x1");
        check.same("beams", "0-1<0!! 0-3<3!! 1-2<4!!", beams());
        refused("8 3 0", () -> x.remove(3), "remove 3");
        for (int odd : ODD) {
            refused("8 3 0", () -> x.remove(odd), "remove " + odd);
        }
        due(2, () -> x.remove(0), "the first");
        check.same("beams", "0-3<3!! 1-2<4!!", beams());
        due(2, () -> x.beam(1, 0, 5), "put again");
        check.same("beams", "0-3<3!! 1-2<4!! 0-1<5", beams());
        due(2, () -> x.remove(2), "the last");
        due(1, () -> x.remove(1), "the last");
        due(0, () -> x.remove(0), "the only one");
        due(0, () -> x.account(7), "none broke");
    }

    private void promise8() {
        fresh("promise 8");
        refused("3 0 0", () -> x.habit(0, 1), "nobody");
        given("o+1;s-1");
        due(0, () -> x.habit(1, 9), "to 9");
        due(9, () -> x.habit(1, 0), "to 0");
        due(0, () -> x.habit(1, 4), "to 4");
        check.same("persons", "o+1#0 | s-1#4", people());
        refused("5 4 0", () -> x.habit(1, 4), "the same");
        refused("5 0 0", () -> x.habit(0, 0), "the same");
        refused("1 0 0", () -> x.habit(0, 10), "10");
        refused("3 2 0", () -> x.habit(2, 10), "not there");
        for (int odd : ODD) {
            refused("3 2 0", () -> x.habit(odd, 1), "habit of " + odd);
            refused("1 0 0", () -> x.habit(0, odd), "habit " + odd);
        }
    }
}
