/** The sentences of the document that name no bound, from its first line on, by answers worked out by hand. */
public final class SentencesTest extends Bench {
    private static final String TERMS = "Terms";
    private static final String TEXTS = "Terms, Texts";

    public static void main(String[] args) {
        SentencesTest test = new SentencesTest();
        test.personsAndFriends();
        test.rounds();
        test.beamsAndCamps();
        test.textsOfPersons();
        test.textsOfBeams();
        test.textsAllOrNone();
        test.reasonsAndExceptions();
        test.promises2To5();
        test.promises6To8();
        test.promises9To12();
        test.promises13To16();
        test.promises17To21();
        test.promises22To25();
        test.promises26And28();
        test.promises29To32();
        test.promises33To37();
        test.promise38();
        test.check.close();
    }

    private void personsAndFriends() {
        sentence(TERMS, "An opinion plumb leans to none.");
        called("o+0;s-1;f01*9");
        check.same("lean and camp", "0 0", x.lean(0) + " " + x.camp(0));
        check.same("another one leans", "-1 2", x.lean(1) + " " + x.camp(1));

        sentence(TERMS, "Persons. At most 6 persons are there, numbered from 0, each with a tilt from -20 to 20");
        called("o+3;o-4;s+5");
        check.same("tilts by number", "3 -4 5", tilts());

        sentence(TERMS, "; one is open or stubborn. ");
        called("o+1;s+1");
        check.same("stubborn", "0 1", x.personOf(0, 2) + " " + x.personOf(1, 2));

        sentence(TERMS, "The mean of a person is the sum of the own tilt times 1 more than the habit");
        called("o+7;h0=5;s-20;o+20;f01*1");
        // (6 * 7 - 20) / 7; 2 is no friend.
        due(3, () -> x.mean(0), "one friend");
        called("f02*3");
        // (6 * 7 - 20 + 3 * 20) / 10.
        due(8, () -> x.mean(0), "two friends");
        sentence(TERMS, "divided by the sum of all these numbers by which tilts are multiplied.");
        called("o+0;h0=2;o+10;o+10;f01*4;f02*3");
        // (4 * 10 + 3 * 10) / (3 + 4 + 3).
        due(7, () -> x.mean(0), "mean");
        due(7, () -> x.meanAgain(0), "meanAgain");
    }

    private void rounds() {
        sentence(TERMS, "; all do so at once.");
        called("o+10;o+0;o-10;f01*1;f12*1");
        // Means 5, 0 and -5; one behind the other would give 5, -1 and -5.
        due(2, () -> x.round(), "round");
        check.same("tilts", "5 0 -5", tilts());

        sentence(TERMS, "Then the habit of each person whose tilt is as before becomes 1 more");
        // 0 goes by 10 to 10, 1 by 1 with the habit 9, 2 rests.
        called("o+20;o+0;o+3;h0=1;h1=9;h2=4;f01*9");
        called("r");
        check.same("persons", "o+11#0 1*9 | o+1#9 0*9 | o+3#5", people());

        sentence(TERMS, "Then each beam creaks once");
        // 40 apart ahead of the round, and 20 behind it.
        called("o+20;o-20;f01*3;b01<20");
        called("r");
        check.same("by the tilts behind the round", "0-1<20", beams());
    }

    private void beamsAndCamps() {
        sentence(TERMS, "A beam is between two persons and has a limit");
        called("o+1;o+2;o+3;b20<7;b12<8");
        check.same("persons and limits", "0 2 7 0 2 | 1 2 8 0 1", beamNumbers(0) + " | " + beamNumbers(1));

        sentence(TERMS, "Two friends who both lean to the left, or both to the right, are in one camp, and so are all who");
        called("o+1;o+9;o-5;o-6;o+2;f04*1;f41*2;f23*9;f12*9");
        check.same("camps", "19 19 12 12 19", camps());
    }

    private void textsOfPersons() {
        sentence(TEXTS, "\"o\" or \"s\", \"+\" or \"-\", and a number lets an open or a stubborn person come;");
        check.same("four", "4", run("o+5;s-12;o-09;s+20"));
        check.same("persons", "o+5#0 | s-12#0 | o-9#0 | s+20#0", people());

        sentence(TEXTS, "\"f\", a person, a person, \"*\" and a digit makes two friends with a weight, or no friends by 0;");
        called("o+1;o+2;o+3");
        check.same("two pairs", "2", run("f02*7;f21*4"));
        check.same("persons", "o+1#0 2*7 | o+2#0 2*4 | o+3#0 0*7 1*4", people());
        check.same("no friends", "1", run("f20*0"));
        check.same("persons", "o+1#0 | o+2#0 2*4 | o+3#0 1*4", people());

        sentence(TEXTS, "\"r\" is a round;");
        called("o+20;o-20;f01*3");
        check.same("two", "2", run("r;r"));
        check.same("rounds and tilts", "2 0 0", x.account(4) + " " + tilts());

        sentence(TEXTS, "\"p\", a person, \"*\" and a digit tells a fact;");
        called("o+20;o-20");
        check.same("two", "2", run("p1*7;p0*2"));
        check.same("tilts", "18 -13", tilts());

        sentence(TEXTS, "\"h\", a person, \"=\" and a digit tells the habit.");
        called("o+20;o-20");
        check.same("two", "2", run("h1=7;h0=2"));
        check.same("persons", "o+20#2 | o-20#7", people());
    }

    private void textsOfBeams() {
        sentence(TEXTS, "\"b\", a person, a person, \"<\" and a number puts a beam;");
        called("o+20;o-20;o+0");
        check.same("three", "3", run("b20<5;b12<07;b01<40"));
        check.same("beams", "0-2<5 1-2<7 0-1<40", beams());

        sentence(TEXTS, "\"x\" and a beam takes it away;");
        called("o+20;o-20;o+0;b20<5;b12<7;b01<40");
        check.same("the second, and the third behind it", "2", run("x1;x1"));
        check.same("beams", "0-2<5", beams());
    }

    private void textsAllOrNone() {
        sentence(TEXTS, "The commands are carried out as the methods would, all of them or none.");
        called("o+20;o-20");
        refusedText("4 1 3", "o+1;f01*3;r;b11<9;x0");
        check.same("none", "2 0 0 2", x.account(0) + " " + x.account(1) + " " + x.account(4) + " " + x.account(9));
        check.same("all", "5", run("o+1;f01*3;r;b10<9;x0"));
        check.same("all", "3 1 1 3", x.account(0) + " " + x.account(1) + " " + x.account(4) + " " + x.account(9));
    }

    private void reasonsAndExceptions() {
        sentence("Terms, Reasons", "Something is refused for the first that applies of the reasons that its method names, in the"
                + " order in which it names them:");
        called("o+0");
        // fact names 6 ahead of 7, but 3 ahead of 1.
        refused("3 1 0", () -> x.fact(1, 0), "3 and 1 apply");
        refused("1 0 0", () -> x.fact(0, 0), "1 and 6 apply");

        sentence(TERMS, "If several conditions of a method are fulfilled, the one that is listed first determines the"
                + " exception.");
        called("o+1");
        faultyText(3, "x0;");
        faultyText(3, "x0;q");
        refusedText("8 0 0", "x0;r");
        due(INDEX, () -> x.factsFor(1, 0), "no such person, and no such strength");
        due(ARGUMENT, () -> x.factsFor(0, 0), "no such strength");
    }

    private void promises2To5() {
        sentence("Promise 2", "Lets a person come.");
        due(0, () -> x.person(-7, true), "a stubborn one");
        check.same("the person", "s-7#0", person(0));
        sentence("Promise 2", "Returns the number of the person.");
        check.same("numbers", "0 1 2", x.person(1, false) + " " + x.person(1, false) + " " + x.person(1, true));

        sentence("Promise 3", "Makes two persons friends with a weight, or no friends.");
        called("o+1;o+2;o+3");
        due(0, () -> x.friends(2, 0, 6), "friends");
        check.same("persons", "o+1#0 2*6 | o+2#0 | o+3#0 0*6", people());
        due(6, () -> x.friends(0, 2, 0), "no friends");
        check.same("persons", "o+1#0 | o+2#0 | o+3#0", people());

        sentence("Promise 4", "Lets a round go by.");
        called("o+20;s-20;f01*3;b01<9");
        due(2, () -> x.round(), "round");
        check.same("persons and beams", "o+10#0 1*3 | s-15#0 0*3, 0-1<9!", people() + ", " + beams());
        due(1, () -> x.account(4), "rounds");

        sentence("Promise 5", "Tells a person a fact.");
        called("o+20;s-20;h1=4");
        due(12, () -> x.fact(0, 8), "8");
        sentence("Promise 5", "Returns the tilt then.");
        called("o+20;s-20;h1=4");
        check.same("8, and 8 less 1", "12 -13 4", x.fact(0, 8) + " " + x.fact(1, 8) + " " + x.fact(0, 8));
        check.same("persons", "o+4#0 | s-13#4", people());
    }

    private void promises6To8() {
        sentence("Promise 6", "Puts a beam between two persons.");
        called("o+1;o+2;o+3");
        due(0, () -> x.beam(2, 1, 33), "beam");
        check.same("beams", "1-2<33", beams());
        sentence("Promise 6", "Returns its number.");
        called("o+1;o+2;o+3");
        check.same("numbers", "0 1 2", x.beam(2, 1, 33) + " " + x.beam(0, 1, 3) + " " + x.beam(0, 2, 9));

        sentence("Promise 7", "Takes a beam away.");
        called("o+1;o+2;o+3;b01<1;b02<2;b12<3");
        due(2, () -> x.remove(1), "beam 1");
        check.same("beams", "0-1<1 1-2<3", beams());
        sentence("Promise 7", "Returns how many there are then.");
        called("o+1;o+2;o+3;b01<1;b02<2;b12<3");
        check.same("there are", "2 1 0", x.remove(0) + " " + x.remove(0) + " " + x.remove(0));

        sentence("Promise 8", "Tells the habit of a person.");
        called("o+1;s+2");
        due(0, () -> x.habit(1, 6), "habit");
        check.same("persons", "o+1#0 | s+2#6", people());
        sentence("Promise 8", "Returns the one before.");
        called("o+1;s+2");
        check.same("before", "0 6 2", x.habit(1, 6) + " " + x.habit(1, 2) + " " + x.habit(1, 9));
    }

    private void promises9To12() {
        sentence("Promise 9", "0 for the tilt, 1 for the habit, 2 for 1 if the person is stubborn, otherwise 0, 3 for the step,"
                + " 4 for the friends, 5 for their weights together,");
        called("o+19;s-18;o+1;h1=3;f01*4;f12*5");
        check.same("0 to 5", "19 0 0 10 1 4", numbers(0).substring(0, 13));
        check.same("0 to 5", "-18 3 1 3 2 9", numbers(1).substring(0, 13));

        sentence("Promise 10", "Returns the weight with which two persons are friends.");
        called("o+1;o+1;o+1;f01*4;f12*5");
        check.same("weights", "4 4 5 0", x.weight(0, 1) + " " + x.weight(1, 0) + " " + x.weight(2, 1) + " " + x.weight(0, 2));

        sentence("Promise 11", "0 for the lower person, 1 for the higher one, 2 for its limit, 3 for how often it creaked,");
        called("o+20;o+1;o-20;b21<11;b20<39;r");
        check.same("beams", "1 2 11 1 21 | 0 2 39 1 40", beamNumbers(0) + " | " + beamNumbers(1));

        sentence("Promise 12", "Returns where an opinion leans.");
        called("o+2;o-2;o+0");
        check.same("leans", "1 -1 0", x.lean(0) + " " + x.lean(1) + " " + x.lean(2));
    }

    private void promises13To16() {
        // 0: (2 * 11 - 4 * 20 + 5) / 7 = -7; 1: (-20 + 44) / 5 = 4; 2: (5 + 11) / 2 = 8.
        String house = "o+11;s-20;o+5;h0=1;f01*4;f02*1";
        sentence("Promise 13", "Returns the mean of a person: friend by friend.");
        called(house);
        check.same("means", "-7 4 8", x.mean(0) + " " + x.mean(1) + " " + x.mean(2));
        sentence("Promise 14", "the sum of all tilts, each added as often as it is multiplied, and what this sum is divided by"
                + " counted along.");
        called(house);
        check.same("means", "-7 4 8", x.meanAgain(0) + " " + x.meanAgain(1) + " " + x.meanAgain(2));

        sentence("Promise 15", "Returns by how much the tilt of a person would become greater in the next round.");
        called(house);
        // By steps of 9, 5 and 10.
        check.same("moves", "-9 5 3", x.wouldMove(0) + " " + x.wouldMove(1) + " " + x.wouldMove(2));
        called("r");
        check.same("tilts behind the round", "2 -15 8", tilts());

        sentence("Promise 16", "Returns the friend who pulls a person the most:");
        called(house);
        // 4 * 31 and 1 * 6.
        check.same("pullers", "1 0 0", x.puller(0) + " " + x.puller(1) + " " + x.puller(2));
    }

    private void promises17To21() {
        sentence("Promise 17", "Returns the force that a fact would have for a person.");
        called("o+20;o-20;h1=8");
        check.same("forces", "5 3", x.force(0, 5) + " " + x.force(1, 5));
        sentence("Promise 18", "Returns how many facts of a strength would make an opinion plumb.");
        called("o+20;o-20;h1=8");
        check.same("20 by 5 and by 3", "4 7", x.factsFor(0, 5) + " " + x.factsFor(1, 5));

        sentence("Promise 19", "Returns what the tilt of a person will be.");
        called("o+20;s-20;f01*3");
        // 0: (20 - 60) / 4 by 10, (10 - 45) / 4 = -8 by 10; 1: (-20 + 60) / 4 by 5, (-15 + 30) / 4 = 3 by 5.
        check.same("0", "20 10 0", x.tiltIn(0, 0) + " " + x.tiltIn(0, 1) + " " + x.tiltIn(0, 2));
        check.same("1", "-20 -15 -10", x.tiltIn(1, 0) + " " + x.tiltIn(1, 1) + " " + x.tiltIn(1, 2));

        sentence("Promise 20", "Returns behind how many rounds there would be the first one in which no tilt moves.");
        called("o+0;s+4;h0=9;h1=9;f01*9");
        // (0 + 36) / 19 = 1, (10 + 36) / 19 = 2, (20 + 36) / 19 = 2: it rests behind two.
        due(2, () -> x.restsIn(), "at first");
        check.same("moved", "1 1 0", x.round() + " " + x.round() + " " + x.round());

        sentence("Promise 21", "Returns in which round from now on a beam would break.");
        called("o+20;o+0;s+20;h1=9;h2=9;f12*9;b10<17");
        // 1 by 1 in each round, up to 18: 19, 18, 17 and less apart, so that it creaks twice.
        due(NONE, () -> x.breaksIn(0), "twice");
        called("x0;b10<16");
        due(3, () -> x.breaksIn(0), "in three rounds");
        called("r;r");
        check.same("beams", "0-1<16!!", beams());
        called("r");
        check.same("beams", "", beams());
    }

    private void promises22To25() {
        sentence("Promise 22", "Returns the camp of a person: by going from friend to friend.");
        called("o+1;o+1;o+1;o+1;f03*1;f32*1");
        check.same("camps", "13 2 13 13", camps());
        sentence("Promise 23", "Returns how many camps there are: by the lowest person of each.");
        called("o+1;o+1;o+1;o+1;o-1;o+0;f03*1;f32*1");
        due(3, () -> x.camps(), "camps");
        sentence("Promise 24", "by joining two camps for each two friends who lean alike.");
        called("o+1;o+1;o+1;o+1;o-1;o+0;f03*1;f32*1");
        due(3, () -> x.campsAgain(), "campsAgain");
        sentence("Promise 25", "whether to the left, and not to the right");
        called("o+1;o-2;o+3;o-4");
        check.same("left and right", "3 2", x.greatest(true) + " " + x.greatest(false));
    }

    private void promises26And28() {
        sentence("Promise 26", "0 for the tilt, 1 for the tilt without its sign, 2 for the habit, 3 for the weights of the"
                + " friends together");
        called("o+1;o-9;o+5;h0=3;h1=4;f02*2;f12*3");
        check.same("by 0 to 3", "201 120 102 210", ranks(0) + " " + ranks(1) + " " + ranks(2) + " " + ranks(3));
        sentence("Promise 26", "the place in this order, from 0");
        called("o+1;o-9;o+5");
        check.same("places", "2 0 1", x.ranked(0, 0) + " " + x.ranked(0, 1) + " " + x.ranked(0, 2));
        sentence("Promise 27", "the place in this order, from 0");
        called("o+1;o-9;o+5;b01<20;b02<5;b12<13");
        // 10, 1 and -1.
        check.same("places", "2 1 0", x.weakest(0) + " " + x.weakest(1) + " " + x.weakest(2));
        sentence("Promise 28", "Returns whether weights of friends are the same both ways, and all tilts and habits are in their"
                + " ranges.");
        called("o+1;o-9;o+5;f01*3;f20*9;r;r");
        due(true, () -> x.isEven(), "isEven");
    }

    private void promises29To32() {
        sentence("Promise 29", "Returns the new length of the buffer.");
        check.same("lengths", "1 2 3", x.append('r') + " " + x.append(';') + " " + x.append('q'));
        sentence("Promise 30", "Carries out the commands in the text buffer, one after the other;");
        called("o+20;o-20");
        // A fact ahead of the round, and one behind it: (11 - 60) / 4 = -12 by 10; (-20 + 33) / 4 = 3 by 10.
        check.same("four", "4", run("p0*9;f01*3;r;p1*9"));
        check.same("tilts", "1 -1", tilts());
        sentence("Promise 31", "Returns the fault position, or -1 if that text had no fault or there was no such call.");
        due(-1, () -> x.faultPosition(), "no such call");
        run("o+1;o");
        due(5, () -> x.faultPosition(), "a fault");
        run("o+1;o-1");
        due(-1, () -> x.faultPosition(), "no fault");
        sentence("Promise 32", "0 for the reason, 1 for its detail, 2 for the index of the command");
        called("o+1;o+2;h1=7");
        run("r;h1=9;h1=3;h1=3;r");
        check.same("0 to 2", "5 3 3", x.reason(0) + " " + x.reason(1) + " " + x.reason(2));
    }

    private void promises33To37() {
        sentence("Promise 33", "Writes a person, in place of the line before:");
        called("o+1;s-20;f01*8;h1=6");
        check.same("persons", "o+1#0 1*8 | s-20#6 0*8", people());
        sentence("Promise 33", "Returns the length of the line.");
        called("o+1;s-20;f01*8;h1=6");
        check.same("lengths", "9 10", x.line(0) + " " + x.line(1));
        sentence("Promise 34", "for each its lower person, \"-\" and the higher one, \"<\" and its limit,");
        called("o+1;s-20;o+3;b21<30;b10<9");
        due(12, () -> x.beams(), "length");
        check.same("beams", "1-2<30 0-1<9", lineText(12));
        sentence("Promise 35", "Returns a character of the line");
        called("s-7");
        x.line(0);
        check.same("characters", "s#0", "" + x.character(0) + x.character(3) + x.character(4));
        sentence("Promise 36", "Returns the mean tilt of all persons:");
        called("o+20;o-5;o-9;o+1");
        due(1.75, () -> x.meanTilt(), "7 by 4");
        sentence("Promise 37", "Returns what part of the opinions is plumb, both numbers as floats.");
        called("o+20;o+0;o-0;o+1;o+1");
        due(0.4f, () -> x.plumbShare(), "2 of 5");
    }

    private void promise38() {
        sentence("Promise 38", "0 for the persons, 1 for the pairs of friends, 2 for the beams, 3 for the opinions that are"
                + " plumb, 4 for the rounds so far, 5 for the facts told so far,");
        called("o+20;o+0;o-2;o-3;f01*1;b01<40;b02<40;b03<40;p2*1;p2*1;r");
        // 0: 20 / 2 by 10; 1: 20 / 2 by 10.
        check.same("0 to 5", "4 1 3 1 1 2", accounts().substring(0, 11));
        sentence("Promise 38", "8 for the sum of all tilts, 9 for the changes that can be undone, 10 for the characters in the"
                + " text buffer");
        called("o+20;o-3;o-19;p1*1;r");
        write("r;r");
        check.same("8 to 10", "-1 5 3", x.account(8) + " " + x.account(9) + " " + x.account(10));
        x.undo();
        check.same("8 to 10", "-1 4 3", x.account(8) + " " + x.account(9) + " " + x.account(10));
    }
}
