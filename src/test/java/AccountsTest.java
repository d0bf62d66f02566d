/** Promises 36 to 41, by answers that were worked out by hand from the document. */
public final class AccountsTest extends Bench {
    public static void main(String[] args) {
        AccountsTest test = new AccountsTest();
        test.promise36();
        test.promise37();
        test.promise38();
        test.promise39();
        test.promise40And41();
        test.check.close();
    }

    private void promise36() {
        fresh("promise 36");
        due(ARITHMETIC, () -> x.meanTilt(), "nobody");
        given("o+0");
        due(0.0, () -> x.meanTilt(), "0 by 1");
        given("o+20;o-19");
        due(1.0 / 3.0, () -> x.meanTilt(), "1 by 3");
        given("o-8");
        due(-1.75, () -> x.meanTilt(), "-7 by 4");
    }

    private void promise37() {
        fresh("promise 37");
        due(ARITHMETIC, () -> x.plumbShare(), "nobody");
        given("o+1");
        due(0.0f, () -> x.plumbShare(), "0 of 1");
        given("o+0;s-0");
        due(2.0f / 3.0f, () -> x.plumbShare(), "2 of 3");
        given("p0*9");
        due(1.0f, () -> x.plumbShare(), "3 of 3");
    }

    private void promise38() {
        fresh("promise 38");
        check.same("nothing", "0 0 0 0 0 0 0 0 0 0 0", accounts());
        given("o+20;s-20;o+0;o-3 f01*3;f12*1 b03<0;b13<1;b23<40 p3*1;p3*2");
        check.same("accounts", "4 2 3 2 0 2 0 0 0 4 0", accounts());
        // 0: (20 - 60) / 4 = -10, by 10 to 10; 1: (-20 + 60 + 0) / 5 = 8, by 5 to -15; 2: -20 / 2 = -10.
        given("r");
        check.same("accounts", "4 2 3 1 1 2 2 0 -15 5 0", accounts());
        write("r;r");
        check.same("accounts", "4 2 3 1 1 2 2 0 -15 5 3", accounts());
        x.commands();
        // 0: (10 - 45) / 4 = -8 to 0; 1: (-15 + 30 - 10) / 5 = 1 to -10; 2: (-10 - 15) / 2 = -12.
        // 0: (0 - 30) / 4 = -7; 1: (-10 + 0 - 12) / 5 = -4 to -5; 2: (-12 - 10) / 2 = -11.
        check.same("persons", "o-7#0 1*3 | s-5#0 0*3 2*1 | o-11#0 1*1 | o0#3", people());
        check.same("accounts", "4 2 2 1 3 2 5 1 -23 6 0", accounts());
        check.same("beams", "0-3<0!! 2-3<40", beams());
        due(ARGUMENT, () -> x.account(11), "account 11");
        for (int odd : ODD) {
            due(ARGUMENT, () -> x.account(odd), "account " + odd);
        }
    }

    private void promise39() {
        fresh("promise 39");
        due(STATE, () -> x.undo(), "nothing");
        undoOfPersons();
        undoOfBeams();
        undoOfCounts();
        undoAndWhatStays();
        undoOfRefused();
    }

    private void nineChanges() {
        fresh("promise 39, nine changes");
        given("o+20;o-20;h0=1 o+3 f01*3 b01<4 p0*2 h1=7 r b02<1 x0");
        due(8, () -> x.account(9), "changes");
    }

    private void undoOfPersons() {
        nineChanges();
        String[] before = {"o+20#1 | o-20#0 | o+3#0", "o+20#1 1*3 | o-20#0 0*3 | o+3#0",
            "o+20#1 1*3 | o-20#0 0*3 | o+3#0", "o+18#1 1*3 | o-20#0 0*3 | o+3#0",
            "o+18#1 1*3 | o-20#7 0*3 | o+3#0", "o+9#0 1*3 | o-17#6 0*3 | o+3#1",
            "o+9#0 1*3 | o-17#6 0*3 | o+3#1"};
        for (int left = 7; left >= 1; left--) {
            due(left, () -> x.undo(), "undo");
            check.same("persons, left " + left, before[left - 1], people());
        }
    }

    private void undoOfBeams() {
        nineChanges();
        String[] before = {"", "", "", "0-1<4", "0-1<4", "0-1<4", "0-1<4!", "0-1<4! 0-2<1"};
        check.same("beams", "0-2<1", beams());
        for (int left = 7; left >= 0; left--) {
            due(left, () -> x.undo(), "undo");
            check.same("beams, left " + left, before[left], beams());
        }
        due(STATE, () -> x.undo(), "no more");
        check.same("persons", "o+20#1 | o-20#0", people());
    }

    private void undoOfCounts() {
        nineChanges();
        x.undo();
        x.undo();
        check.same("behind the round", "1 1 1 9 1", x.account(4) + " " + x.account(6) + " " + x.account(5) + " "
                + x.personOf(0, 7) + " " + x.personOf(0, 6));
        x.undo();
        check.same("ahead of the round", "0 0 1 0 1", x.account(4) + " " + x.account(6) + " " + x.account(5) + " "
                + x.personOf(0, 7) + " " + x.personOf(0, 6));
        x.undo();
        x.undo();
        check.same("ahead of the fact", "0 0", x.account(5) + " " + x.personOf(0, 6));
    }

    private void undoAndWhatStays() {
        fresh("promise 39, what stays");
        given("o+20;o-20 r");
        run("q");
        run("r;x0");
        x.line(1);
        write("r;r");
        due(1, () -> x.undo(), "undo");
        check.same("reason", "8 0 1", reasons());
        due(-1, () -> x.faultPosition(), "fault");
        due('-', () -> x.character(1), "line");
        due(3, () -> x.account(10), "buffer");
        due(0, () -> x.account(4), "rounds");
        due(2, () -> x.commands(), "commands");
        due(2, () -> x.account(4), "rounds");
        due(1, () -> x.undo(), "undo of commands");
        due(0, () -> x.account(4), "rounds");
        due(0, () -> x.round(), "a round behind undo");
        due(1, () -> x.undo(), "undo of the round");
        due(0, () -> x.undo(), "undo of the persons");
        due(0, () -> x.account(0), "nobody");
        due(0, () -> x.person(3, true), "a new one");
        check.same("persons", "s+3#0", people());
    }

    private void undoOfRefused() {
        fresh("promise 39, refused calls");
        given("o+1 o+2 o+3");
        for (int call = 0; call < 9; call++) {
            refused("8 0 0", () -> x.remove(0), "remove");
            refusedText("8 0 1", "o+4;x0");
        }
        due(2, () -> x.undo(), "undo");
        due(1, () -> x.undo(), "undo");
        due(0, () -> x.undo(), "undo");
        due(0, () -> x.account(0), "nobody");

        fresh("promise 39, nine calls");
        given("o+1 o+2");
        for (int call = 0; call < 8; call++) {
            x.round();
        }
        due(7, () -> x.undo(), "undo");
        due(8, () -> x.round() + x.account(9), "round");
        for (int left = 7; left >= 0; left--) {
            due(left, () -> x.undo(), "undo");
        }
        due(STATE, () -> x.undo(), "undo");
        check.same("persons", "o+1#0 | o+2#0", people());
    }

    private void promise40And41() {
        fresh("promises 40 and 41");
        due(STATE, () -> x.restore(), "no snapshot");
        due(0, () -> x.save(), "of nobody");
        given("o+20;s-20;f01*3 b01<9 r p0*3");
        due(0, () -> x.restore(), "of nobody");
        check.same("nothing", "0 0 0 0 0 0 0 0 0 0 0", accounts());
        due(STATE, () -> x.undo(), "forgotten");

        given("o+20;s-20;f01*3;b01<9 r p0*3");
        String people = "o+7#0 1*3 | s-15#0 0*3";
        check.same("persons", people, people());
        due(2, () -> x.save(), "two");
        due(3, () -> x.account(9), "changes");
        given("o+5 x0 r;r h1=9");
        x.line(2);
        run("q");
        refused("8 0 0", () -> x.remove(7), "remove");
        write("r");
        due(2, () -> x.restore(), "two");
        check.same("accounts", "2 1 1 0 1 1 1 0 -8 0 1", accounts());
        due('+', () -> x.character(1), "line");
        due(0, () -> x.faultPosition(), "fault");
        check.same("reason", "8 0 0", reasons());
        check.same("persons", people, people());
        check.same("beams", "0-1<9!", beams());
        check.same("went", 10, x.personOf(0, 7));
        due(STATE, () -> x.undo(), "forgotten");
        due(1, () -> x.commands(), "commands");
        due(0, () -> x.undo(), "undo");
        check.same("persons", people, people());
        given("f01*0");
        due(2, () -> x.restore(), "the snapshot is kept");
        check.same("persons", people, people());
        given("o+1");
        due(3, () -> x.save(), "in place of the earlier");
        due(0, () -> x.undo(), "undo");
        due(3, () -> x.restore(), "undo does not concern it");
    }
}
