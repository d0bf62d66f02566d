/** The sentences of "Terms" that name a bound, each with the last input that is taken and the first that is not. */
public final class TermsBoundsTest extends Bench {
    private static final String TERMS = "Terms";

    public static void main(String[] args) {
        TermsBoundsTest test = new TermsBoundsTest();
        test.callsOfAnObject();
        test.divisions();
        test.persons();
        test.friends();
        test.rounds();
        test.habitsBehindRounds();
        test.beamsBehindRounds();
        test.facts();
        test.beamsThemselves();
        test.whoIsInOneCamp();
        test.changes();
        test.changesAndWhatStays();
        test.details();
        test.forecasts();
        test.check.close();
    }

    private void callsOfAnObject() {
        sentence("What it is", "An object is used for at most 512 calls after it has been made");
        due(0, () -> x.person(7, false), "the first call");
        for (int round = 1; round <= 510; round++) {
            x.round();
        }
        check.same("calls so far", 511, x.calls());
        check.same("rounds, told by the last call", 510, x.account(4));
    }

    private void divisions() {
        sentence(TERMS, "Divisions are rounded towards 0, unless something else is told.");
        // Two persons, a weight of 1: the own tilt by 2.
        int[][] meansByTilt = {{-4, -2}, {-3, -1}, {-2, -1}, {-1, 0}, {0, 0}, {1, 0}, {2, 1}, {3, 1}, {4, 2}};
        for (int[] meanByTilt : meansByTilt) {
            again();
            x.person(meanByTilt[0], false);
            called("o+0;f01*1");
            due(meanByTilt[1], () -> x.mean(0), "mean of " + meanByTilt[0]);
            due(meanByTilt[1], () -> x.meanAgain(0), "meanAgain of " + meanByTilt[0]);
        }
    }

    private void persons() {
        sentence(TERMS, "At most 6 persons are there, numbered from 0");
        for (int person = 0; person < 6; person++) {
            int number = person;
            due(number, () -> x.person(1, false), "person " + number);
        }
        due(6, () -> x.account(0), "persons");
        refused("2 6 0", () -> x.person(1, false), "the 7th, an open one");
        refused("2 6 0", () -> x.person(1, true), "the 7th, a stubborn one");
        refusedText("2 6 0", "s-1");
        due(5, () -> x.undo(), "undo of the 6th");
        due(5, () -> x.person(2, true), "the 6th again");

        sentence(TERMS, "each with a tilt from -20 to 20");
        due(0, () -> x.person(-20, false), "-20");
        due(1, () -> x.person(20, false), "20");
        refused("1 0 0", () -> x.person(-21, false), "-21");
        refused("1 0 0", () -> x.person(21, false), "21");
        check.same("a text, -20 and 20", "2", run("s-20;s+20"));
        refusedText("1 0 0", "s-21");
        refusedText("1 0 0", "s+21");
        check.same("tilts", "-20 20 -20 20", tilts());

        sentence(TERMS, "and with a habit from 0 to 9, at first 0");
        called("o+1;s+1");
        check.same("at first", "0 0", x.personOf(0, 1) + " " + x.personOf(1, 1));
        due(0, () -> x.habit(0, 9), "to 9");
        refused("1 0 0", () -> x.habit(0, 10), "to 10");
        due(9, () -> x.habit(0, 0), "to 0");
        refused("1 0 0", () -> x.habit(0, -1), "to -1");
        due(0, () -> x.personOf(0, 1), "habit");

        sentence(TERMS, "An opinion is plumb if the tilt is 0; otherwise it leans, to the left below 0 and to the right");
        called("o-1;o+0;o+1");
        check.same("leans", "-1 0 1", x.lean(0) + " " + x.lean(1) + " " + x.lean(2));
        due(1, () -> x.account(3), "plumb ones");
        due(1.0f / 3.0f, () -> x.plumbShare(), "plumb ones");
        check.same("the greatest", "0 2", x.greatest(true) + " " + x.greatest(false));
        refused("6 0 0", () -> x.fact(1, 1), "a fact to a plumb one");
        due(0, () -> x.fact(0, 1), "a fact to -1");
        due(0, () -> x.fact(2, 1), "a fact to 1");

        sentence(TERMS, "The step of an open person is 10 less the habit; that of a stubborn one is half of this.");
        called("o+1;s+1");
        int[] halves = {5, 4, 4, 3, 3, 2, 2, 1, 1, 0};
        for (int habit = 9; habit >= 0; habit--) {
            x.habit(0, habit);
            x.habit(1, habit);
            due(10 - habit, () -> x.personOf(0, 3), "open, habit " + habit);
            due(halves[habit], () -> x.personOf(1, 3), "stubborn, habit " + habit);
        }
    }

    private void friends() {
        sentence(TERMS, "Two persons are friends with a weight from 1 to 9, or no friends, as at first.");
        called("o+1;o+2");
        check.same("at first", "0 0 0", x.weight(0, 1) + " " + x.personOf(0, 4) + " " + x.account(1));
        due(0, () -> x.friends(0, 1, 1), "weight 1");
        check.same("friends", "1 1 1", x.weight(0, 1) + " " + x.personOf(1, 4) + " " + x.account(1));
        due(1, () -> x.friends(0, 1, 9), "weight 9");
        refused("1 0 0", () -> x.friends(0, 1, 10), "weight 10");
        refused("1 0 0", () -> x.friends(0, 1, -1), "weight -1");
        due(9, () -> x.friends(0, 1, 0), "weight 0");
        check.same("no friends", "0 0 0", x.weight(1, 0) + " " + x.personOf(0, 4) + " " + x.account(1));

        sentence(TERMS, "is the sum of the own tilt times 1 more than the habit, and of the tilts of all friends times");
        called("o-20;o+20;o+20;o+20;o+20;o+20");
        means(0, -20, "without friends");
        called("f01*9");
        // (-20 + 180) / 10; with the habit 9: (-200 + 180) / 19.
        means(0, 16, "habit 0");
        called("h0=9");
        means(0, -1, "habit 9");
        called("f02*9;f03*9;f04*9;f05*9");
        // (-200 + 900) / 55; with the habit 0: (-20 + 900) / 46.
        means(0, 12, "all weights 9, habit 9");
        called("h0=0");
        means(0, 19, "all weights 9, habit 0");
        called("f01*0");
        // (-20 + 720) / 37.
        means(0, 18, "no friend of 1 any more");
    }

    private void means(int person, int want, String call) {
        due(want, () -> x.mean(person), "mean, " + call);
        due(want, () -> x.meanAgain(person), "meanAgain, " + call);
    }

    private void rounds() {
        sentence(TERMS, "each tilt goes towards the mean of its person, as all tilts are ahead of the round");
        called("o+10;o-10;f01*9");
        // Means (10 - 90) / 10 = -8 and 8, each by the step of 10; one behind the other would give 0 and -1.
        due(2, () -> x.round(), "round");
        check.same("tilts", "0 0", tilts());

        sentence(TERMS, "by the step of the person at most");
        // The friend has the habit 9 and is stubborn: a step of 0. The own tilt is 0: the mean is 9 * friend / 10.
        int[][] open = {{10, 9}, {11, 9}, {12, 10}, {13, 10}, {20, 10}, {1, 0}, {2, 1}};
        for (int[] friendAndMove : open) {
            moves("o+0", friendAndMove[0], friendAndMove[1]);
            moves("o+0", -friendAndMove[0], -friendAndMove[1]);
        }
        int[][] stubborn = {{4, 3}, {5, 4}, {6, 5}, {7, 5}, {20, 5}, {1, 0}};
        for (int[] friendAndMove : stubborn) {
            moves("s+0", friendAndMove[0], friendAndMove[1]);
            moves("s+0", -friendAndMove[0], -friendAndMove[1]);
        }
        // With the habit 9 the mean is 9 * friend / 19: an open one has a step of 1, a stubborn one none.
        int[][] slow = {{2, 0}, {3, 1}, {5, 1}, {20, 1}};
        for (int[] friendAndMove : slow) {
            moves("o+0;h0=9", friendAndMove[0], friendAndMove[1]);
            moves("o+0;h0=9", -friendAndMove[0], -friendAndMove[1]);
            moves("s+0;h0=9", friendAndMove[0], 0);
        }
    }

    private void moves(String person, int friend, int want) {
        again();
        called(person);
        x.person(friend, true);
        called("h1=9;f01*9");
        String call = person + " with a friend of " + friend;
        due(want, () -> x.wouldMove(0), "wouldMove, " + call);
        due(want, () -> x.tiltIn(0, 1), "tiltIn, " + call);
        due(want == 0 ? 0 : 1, () -> x.round(), "round, " + call);
        due(want, () -> x.personOf(0, 0), "tilt, " + call);
        due(Math.abs(want), () -> x.personOf(0, 7), "went, " + call);
    }

    private void habitsBehindRounds() {
        sentence(TERMS, "Then the habit of each person whose tilt is as before becomes 1 more, up to 9");
        habit("o+7;o+0", 0, 1);
        habit("o+7;o+0;h0=7", 7, 8);
        habit("o+7;o+0;h0=8", 8, 9);
        habit("o+7;o+0;h0=9", 9, 9);
        habit("s-7;o+0;h0=8", 8, 9);
        habit("s-7;o+0;h0=9", 9, 9);
        // 8 / 9 and 9 / 9: a mean of 0 and of 1.
        habit("o+0;s+8;h1=9;h0=7;f01*1", 7, 8);
        habit("o+0;s+9;h1=9;h0=7;f01*1", 7, 7);
        habit("o+0;s-8;h1=9;h0=7;f01*1", 7, 8);
        habit("o+0;s-9;h1=9;h0=7;f01*1", 7, 7);
        // The mean is 20 * 9 / 19, but the step of a stubborn one is 1 of the habit 8, and 0 of 9.
        habit("s+0;s+20;h1=9;h0=8;f01*9", 8, 8);
        habit("s+0;s+20;h1=9;h0=9;f01*9", 9, 9);

        sentence(TERMS, "and that of each one whose tilt went by 3 or more becomes 1 less, down to 0");
        // By 7 with the habit 5 and a weight of 1: 14 / 7 and 20 / 7 are 2, 21 / 7 would be 3.
        habit("o+0;s+14;h1=9;h0=5;f01*1", 5, 5);
        habit("o+0;s+20;h1=9;h0=5;f01*1", 5, 5);
        // With a weight of 2 by 8: 10 / 4 is 2, 12 / 4 is 3, 16 / 4 is 4.
        habit("o+0;s+10;h1=9;h0=5;f01*2", 5, 5);
        habit("o+0;s+11;h1=9;h0=5;f01*2", 5, 5);
        habit("o+0;s+12;h1=9;h0=5;f01*2", 5, 4);
        habit("o+0;s+16;h1=9;h0=5;f01*2", 5, 4);
        habit("o+0;s-11;h1=9;h0=5;f01*2", 5, 5);
        habit("o+0;s-12;h1=9;h0=5;f01*2", 5, 4);
        // The step of 2, of 3.
        habit("o+0;s+20;h1=9;h0=8;f01*9", 8, 8);
        habit("o+0;s+20;h1=9;h0=7;f01*9", 7, 6);
        habit("s+0;s-20;h1=9;h0=5;f01*9", 5, 5);
        habit("s+0;s-20;h1=9;h0=4;f01*9", 4, 3);
        habit("o+0;s+12;h1=9;h0=1;f01*9", 1, 0);
        habit("o+0;s+12;h1=9;f01*9", 0, 0);
        habit("o+0;s-20;h1=9;f01*9", 0, 0);
    }

    private void habit(String house, int before, int behind) {
        again();
        called(house);
        due(before, () -> x.personOf(0, 1), "habit ahead of the round, " + house);
        x.round();
        due(behind, () -> x.personOf(0, 1), "habit behind the round, " + house);
    }

    private void beamsBehindRounds() {
        sentence(TERMS, "Then each beam creaks once if the tilts of its persons differ by more than its limit");
        creaks("o+20;o-20", 40, 0);
        creaks("o+20;o-20", 39, 1);
        creaks("o-20;o+20", 40, 0);
        creaks("o-20;o+20", 39, 1);
        creaks("o+3;o+3", 0, 0);
        creaks("o+3;o+4", 0, 1);
        creaks("o+4;o+3", 0, 1);
        creaks("o+4;o+3", 1, 0);
        creaks("o-5;o+6", 10, 1);
        creaks("o-5;o+6", 11, 0);
        creaks("o-5;o+6", 12, 0);
        // 10 and -10 behind the round, and 0 and 10.
        creaks("o+20;o-20;f01*3", 19, 1);
        creaks("o+20;o-20;f01*3", 20, 0);
        creaks("o+0;o+0;s+20;h2=9;f12*9", 9, 1);
        creaks("o+0;o+0;s+20;h2=9;f12*9", 10, 0);

        sentence(TERMS, "it breaks, and is gone, as it creaks for the 3rd time");
        called("o+20;o-20;b01<39;r;r");
        check.same("twice", "1 2 2 0", x.account(2) + " " + x.beamOf(0, 3) + " " + x.account(6) + " " + x.account(7));
        called("r");
        check.same("3 times", "0 3 1", x.account(2) + " " + x.account(6) + " " + x.account(7));
        due(INDEX, () -> x.beamOf(0, 3), "it is gone");
        called("r");
        check.same("no more", "0 3 1", x.account(2) + " " + x.account(6) + " " + x.account(7));

        sentence(TERMS, "as it creaks for the 3rd time");
        // Twice 20 apart, and then at 10 as friends.
        called("o+20;o+0;b01<19;r;r;f01*1;r;r;r");
        check.same("not at rest", "1 2", x.account(2) + " " + x.beamOf(0, 3));

        sentence(TERMS, "it breaks, and is gone");
        called("o+20;o+20;o+20;o-20;o-20;o-20;b03<0;b14<40;b25<39;b04<40;b15<1;b02<0;r;r");
        check.same("ahead of it", "0-3<0!! 1-4<40 2-5<39!! 0-4<40 1-5<1!! 0-2<0", beams());
        called("r");
        check.same("three at once", "1-4<40 0-4<40 0-2<0", beams());
        check.same("accounts", "3 9 3", x.account(2) + " " + x.account(6) + " " + x.account(7));

        again();
        called("o+20;o+20;o+20;o-20;o-20;o-20;b03<0;b14<1;b25<39;b04<2;b15<1;b05<0;r;r");
        due(6, () -> x.account(2), "six beams");
        called("r");
        check.same("six at once", "0 18 6", x.account(2) + " " + x.account(6) + " " + x.account(7));
        check.same("no beams", "", beams());
    }

    private void creaks(String house, int limit, int want) {
        again();
        called(house);
        x.beam(1, 0, limit);
        x.round();
        due(want, () -> x.beamOf(0, 3), "creaks of " + house + " with the limit " + limit);
        due(want, () -> x.account(6), "creaks of all of " + house + " with the limit " + limit);
    }

    private void facts() {
        sentence(TERMS, "A fact of a strength from 1 to 9");
        called("o+20");
        due(19, () -> x.fact(0, 1), "strength 1");
        due(10, () -> x.fact(0, 9), "strength 9");
        refused("1 0 0", () -> x.fact(0, 0), "strength 0");
        refused("1 0 0", () -> x.fact(0, 10), "strength 10");
        due(2, () -> x.account(5), "facts");

        sentence(TERMS, "makes a tilt less by its force, but not beyond 0");
        int[][] tilts = {{20, 13}, {8, 1}, {7, 0}, {6, 0}, {1, 0}};
        for (int[] tilt : tilts) {
            again();
            x.person(tilt[0], false);
            x.person(-tilt[0], true);
            due(tilt[1], () -> x.fact(0, 7), "a fact to " + tilt[0]);
            due(-tilt[1], () -> x.fact(1, 7), "a fact to " + -tilt[0]);
            check.same("tilts", tilt[1] + " " + -tilt[1], tilts());
        }

        sentence(TERMS, "the force is the strength less a third of the habit, but not below 0");
        int[] thirds = {0, 0, 0, 1, 1, 1, 2, 2, 2, 3};
        for (int habit = 0; habit <= 9; habit++) {
            again();
            called("o+20");
            if (habit > 0) {
                x.habit(0, habit);
            }
            for (int strength = 1; strength <= 9; strength++) {
                int force = strength;
                due(Math.max(0, strength - thirds[habit]), () -> x.force(0, force), "habit " + habit);
            }
        }
        again();
        called("s-20;h0=9");
        refused("7 1 0", () -> x.fact(0, 1), "no force of 1");
        refused("7 2 0", () -> x.fact(0, 2), "no force of 2");
        refused("7 3 0", () -> x.fact(0, 3), "no force of 3");
        due(-19, () -> x.fact(0, 4), "a force of 1");
        due(-13, () -> x.fact(0, 9), "a force of 6");
    }

    private void beamsThemselves() {
        sentence(TERMS, "At most 6 beams are there, numbered from 0");
        called("o+1;o+2;o+3;o+4;o+5");
        int[][] pairs = {{0, 1}, {0, 2}, {0, 3}, {0, 4}, {1, 2}, {1, 3}};
        for (int beam = 0; beam < 6; beam++) {
            int number = beam;
            due(number, () -> x.beam(pairs[number][0], pairs[number][1], 40), "beam " + number);
        }
        refused("2 6 0", () -> x.beam(1, 4, 40), "the 7th");
        refusedText("2 6 0", "b14<40");
        due(5, () -> x.remove(0), "one less");
        due(5, () -> x.beam(1, 4, 40), "the 6th again");
        refused("2 6 0", () -> x.beam(0, 1, 40), "the 7th again");

        sentence(TERMS, "when one is gone, the numbers of the later ones become 1 less");
        called("o+1;o+2;o+3;o+4;b01<1;b02<2;b03<3;b12<4");
        due(3, () -> x.remove(1), "one between");
        check.same("beams", "0-1<1 0-3<3 1-2<4", beams());
        due(2, () -> x.remove(2), "the last");
        check.same("beams", "0-1<1 0-3<3", beams());
        due(1, () -> x.remove(0), "the first");
        check.same("beams", "0-3<3", beams());

        sentence(TERMS, "has a limit from 0 to 40");
        called("o+1;o+2;o+3");
        due(0, () -> x.beam(0, 1, 0), "limit 0");
        due(1, () -> x.beam(0, 2, 40), "limit 40");
        refused("1 0 0", () -> x.beam(1, 2, -1), "limit -1");
        refused("1 0 0", () -> x.beam(1, 2, 41), "limit 41");
        refusedText("1 0 0", "b12<41");
        check.same("beams", "0-1<0 0-2<40", beams());

        sentence(TERMS, "two persons have one beam at most");
        called("o+20;o+2;o+3;b01<9");
        refused("9 0 0", () -> x.beam(0, 1, 8), "a second one");
        refused("9 0 0", () -> x.beam(1, 0, 9), "the other way");
        due(1, () -> x.beam(0, 2, 9), "of two others");
        refused("9 1 0", () -> x.beam(2, 0, 9), "of two others, twice");
        called("r;r;r");
        due(0, () -> x.account(2), "both broke");
        due(0, () -> x.beam(1, 0, 40), "one again");
        due(0, () -> x.remove(0), "taken away");
        due(0, () -> x.beam(0, 1, 40), "one again");
    }

    private void whoIsInOneCamp() {
        sentence(TERMS, "Two friends who both lean to the left, or both to the right, are in one camp");
        campsOf("o+1;o+1", "f01*1", "3 3", 1);
        campsOf("o-1;o-1", "f01*1", "3 3", 1);
        campsOf("o-20;o-1", "f01*9", "3 3", 1);
        campsOf("o+1;o-1", "f01*9", "1 2", 2);
        campsOf("o-1;o+1", "f01*9", "1 2", 2);

        sentence(TERMS, "and so are all who are joined by such friends");
        campsOf("o+1;o+1;o+1", "f02*1;f12*1", "7 7 7", 1);
        campsOf("o+1;o-1;o+1", "f01*1;f12*1", "1 2 4", 3);
        campsOf("o+1;o+0;o+1", "f01*1;f12*1", "1 0 4", 2);
        campsOf("o+1;o+0;o+1;o+2", "f01*1;f12*1;f23*1;f03*1", "13 0 13 13", 1);
        campsOf("o+1;o+1;o+1;o+1;o+1;o+1", "f05*1;f54*1;f41*1;f13*1;f32*1", "63 63 63 63 63 63", 1);

        sentence(TERMS, "A person whose opinion is plumb is in none; one who leans and has no such friend is a camp alone.");
        campsOf("o+0;o+0", "f01*9", "0 0", 0);
        campsOf("o+0;o+1", "f01*9", "0 2", 1);
        campsOf("o+0;o-1", "f01*9", "0 2", 1);
        campsOf("o+5;o+5", "f01*9;f01*0", "1 2", 2);
        campsOf("o+5;o+5;o-5;o-5;o+5;o+0", "f01*1", "3 3 4 8 16 0", 4);
    }

    private void campsOf(String persons, String friends, String camps, int want) {
        again();
        called(persons + " " + friends);
        check.same("camps of " + persons + " " + friends, camps, camps());
        due(want, () -> x.camps(), "camps of " + persons + " " + friends);
        due(want, () -> x.campsAgain(), "campsAgain of " + persons + " " + friends);
    }

    private void changes() {
        sentence(TERMS, "What there was before each of the latest 8 is kept; restore forgets it.");
        for (int changes = 0; changes <= 11; changes++) {
            again();
            called("o+20");
            x.save();
            x.restore();
            for (int habit = 1; habit <= changes; habit++) {
                x.habit(0, habit > 9 ? habit - 9 : habit);
            }
            int kept = Math.min(changes, 8);
            due(kept, () -> x.account(9), "kept of " + changes);
            for (int left = kept - 1; left >= 0; left--) {
                due(left, () -> x.undo(), "undo, of " + changes);
                int before = changes - (kept - left);
                due(before > 9 ? before - 9 : before, () -> x.personOf(0, 1), "habit, of " + changes);
            }
            due(STATE, () -> x.undo(), "one more, of " + changes);
        }
        again();
        called("o+20");
        x.save();
        called("h0=1;h0=2");
        due(1, () -> x.restore(), "restore");
        due(0, () -> x.account(9), "forgotten");
        due(STATE, () -> x.undo(), "forgotten");
        called("h0=3");
        due(0, () -> x.undo(), "only what came behind");

        sentence(TERMS, "What can be undone are the successful calls of person, friends, round, fact, beam, remove, habit and");
        called("o+20;o-20;f01*1;r;p0*1;b01<9;x0;h0=9");
        due(8, () -> x.account(9), "all kinds but commands");
        check.same("commands", "2", run("h0=8;h0=7"));
        due(7, () -> x.undo(), "undo of commands");
        due(9, () -> x.personOf(0, 1), "habit");
        due(6, () -> x.undo(), "undo of habit");
        due(0, () -> x.personOf(0, 1), "habit");
        due(5, () -> x.undo(), "undo of remove");
        due(1, () -> x.account(2), "beams");
        due(4, () -> x.undo(), "undo of beam");
        due(0, () -> x.account(2), "beams");
        check.same("facts", "1 1", x.account(5) + " " + x.personOf(0, 6));
        due(3, () -> x.undo(), "undo of fact");
        check.same("facts", "0 0", x.account(5) + " " + x.personOf(0, 6));
        check.same("tilts behind the round", "10 -10", tilts());
        due(2, () -> x.undo(), "undo of round");
        check.same("tilts ahead of the round", "20 -20", tilts());
        check.same("ahead of the round", "0 0 1", x.account(4) + " " + x.personOf(0, 7) + " " + x.weight(0, 1));
        due(1, () -> x.undo(), "undo of friends");
        due(0, () -> x.weight(0, 1), "weight");
        due(0, () -> x.undo(), "undo of person");
        due(1, () -> x.account(0), "persons");
        due(STATE, () -> x.undo(), "the oldest of nine is not kept");
    }

    private void changesAndWhatStays() {
        sentence(TERMS, "The text buffer, the fault position, the reason and the line do not belong to it, and stay.");
        called("o+20");
        x.save();
        run("o;");
        called("o-20");
        refused("4 1 0", () -> x.friends(1, 1, 1), "the reason");
        due(6, () -> x.line(1), "the line");
        write("x0;");
        due(1, () -> x.undo(), "undo");
        check.same("buffer and fault behind undo", "3 1", Answers.ofText(x));
        check.same("reason behind undo", "4 1 0", reasons());
        check.same("line behind undo", "o-20#0", lineText(6));
        write("r");
        due(1, () -> x.restore(), "restore");
        check.same("buffer and fault behind restore", "4 1", Answers.ofText(x));
        check.same("reason behind restore", "4 1 0", reasons());
        check.same("line behind restore", "o-20#0", lineText(6));
        check.same("the text behind both", REFUSED, run(""));
        check.same("its reason", "8 0 0", reasons());
    }

    private void details() {
        sentence(TERMS, "To make two persons no friends who are none is refused, as the weight 0 is so already.");
        called("o+1;o+2;o+3");
        refused("5 0 0", () -> x.friends(0, 1, 0), "none at first");
        due(0, () -> x.friends(0, 1, 1), "friends");
        due(1, () -> x.friends(1, 0, 0), "no friends");
        refused("5 0 0", () -> x.friends(0, 1, 0), "none again");
        refusedText("5 0 0", "f10*0");
        refusedText("5 0 1", "f12*1;f01*0");

        sentence(TERMS, "A person without friends has the own tilt as the mean.");
        for (int tilt : new int[] {-20, -1, 0, 1, 20}) {
            again();
            x.person(tilt, false);
            means(0, tilt, "tilt " + tilt);
            called("h0=9;o+20;f01*1");
            check.same("with a friend", (tilt * 10 + 20) / 11, x.mean(0));
            called("f01*0");
            means(0, tilt, "tilt " + tilt + ", no friend any more");
        }

        sentence(TERMS, "The force is told also for an opinion that is plumb.");
        called("o+0;s+1;h1=9;p1*4");
        due(9, () -> x.force(0, 9), "plumb at first");
        due(1, () -> x.force(1, 4), "plumb by a fact");
        due(0, () -> x.force(1, 3), "plumb, without force");
    }

    private void forecasts() {
        sentence(TERMS, "What will be is told as if only rounds were; beams do not matter for tilts.");
        called("o+20;o-20;f01*3");
        String without = x.tiltIn(0, 1) + " " + x.tiltIn(0, 2) + " " + x.wouldMove(0) + " " + x.restsIn();
        called("b01<0");
        check.same("with a beam", without, x.tiltIn(0, 1) + " " + x.tiltIn(0, 2) + " " + x.wouldMove(0) + " "
                + x.restsIn());
        check.same("told", "10 0 -10 2", without);
        check.same("nothing went by", "0 0 20 0", x.account(4) + " " + x.account(6) + " " + x.personOf(0, 0) + " "
                + x.beamOf(0, 3));

        sentence(TERMS, "How often a beam creaked so far counts for the round in which it would break.");
        called("o+20;o-20;b01<39");
        due(3, () -> x.breaksIn(0), "no creak so far");
        called("r");
        due(2, () -> x.breaksIn(0), "one creak so far");
        called("r");
        due(1, () -> x.breaksIn(0), "two creaks so far");
        called("p0*1");
        due(NONE, () -> x.breaksIn(0), "two creaks so far, and no more");
        called("x0;b01<38");
        due(3, () -> x.breaksIn(0), "a new one");
    }
}
