/** Promises 29 to 35, by answers that were worked out by hand from the document. */
public final class TextsTest extends Bench {
    public static void main(String[] args) {
        TextsTest test = new TextsTest();
        test.promise29();
        test.promise30();
        test.promise30Refused();
        test.promise31();
        test.promise32();
        test.promise33();
        test.promise34();
        test.promise35();
        test.check.close();
    }

    private void promise29() {
        fresh("promise 29");
        for (int length = 1; length <= 60; length++) {
            int want = length;
            due(want, () -> x.append('r'), "append");
        }
        due(60, () -> x.account(10), "characters");
        due(STATE, () -> x.append('r'), "the 61st");
        due(60, () -> x.account(10), "characters");
        check.same("commands", ARGUMENT, run(""));
        due(1, () -> x.append((char) 65535), "any character");
        check.same("commands", ARGUMENT, run(""));
        due(0, () -> x.faultPosition(), "fault");
    }

    private void promise30() {
        fresh("promise 30");
        check.same("all kinds", "10", run("o+12;s-09;o-0;f01*4;b10<5;r;p1*2;h2=7;x0;o+20"));
        // 0: (12 - 36) / 5 = -4, by 10 to 2; 1: (-9 + 48) / 5 = 7, by 5 to -4, and -2 by the fact.
        check.same("persons", "o+2#0 1*4 | s-2#0 0*4 | o0#7 | o+20#0", people());
        check.same("beams", "", beams());
        check.same("changes", "1 0 1 1 1", x.account(9) + " " + x.account(10) + " " + x.account(4) + " "
                + x.account(5) + " " + x.account(6));
        due(-1, () -> x.faultPosition(), "fault");
        check.same("one", "1", run("f01*0"));
        check.same("person", "o+2#0", person(0));
        due(1, () -> x.undo(), "one left");
        due(0, () -> x.undo(), "none left");
        due(0, () -> x.account(0), "nobody");

        fresh("promise 30, many");
        given("o+1");
        check.same("30 rounds", "30", run("r;".repeat(29) + "r"));
        due(30, () -> x.account(4), "rounds");
        due(2, () -> x.account(9), "changes");
        check.same("faulty", ARGUMENT, run("r;".repeat(30)));
        due(60, () -> x.faultPosition(), "too early");
        check.same("empty", ARGUMENT, run(""));
        due(0, () -> x.faultPosition(), "too early");
        due(30, () -> x.account(4), "rounds");
        check.same("sign of 0", "1", run("o-00"));
        check.same("person", "o0#0", person(1));
    }

    private void promise30Refused() {
        fresh("promise 30, refused");
        refusedText("10 0 0", "r");
        refusedText("8 0 2", "o+1;r;x0");
        refusedText("1 0 2", "o+1;r;o+99");
        refusedText("1 0 0", "s-21");
        refusedText("2 6 6", "o+1;o+1;o+1;o+1;o+1;o+1;o+1");
        refusedText("3 2 2", "o+1;o+1;f02*1");
        refusedText("4 1 2", "o+1;o+1;f11*1");
        refusedText("5 0 2", "o+1;o+1;f01*0");
        refusedText("5 3 3", "o+1;o+1;f01*3;f10*3");
        refusedText("1 0 1", "o+1;p0*0");
        refusedText("6 0 2", "o+1;p0*1;p0*1");
        refusedText("7 2 2", "o+1;h0=7;p0*2");
        refusedText("1 0 2", "o+1;o+1;b01<41");
        refusedText("9 0 3", "o+1;o+1;b01<40;b10<1");
        refusedText("5 0 1", "o+1;h0=0");
        refusedText("3 1 1", "o+1;h9=0");
        given("o+1;o+1;b01<0");
        refusedText("8 0 1", "x0;x0");
        refusedText("8 0 3", "r;x0;o+2;x9");
        given("r");
    }

    private void promise31() {
        fresh("promise 31");
        String[] tooEarly = {"", "o", "o+", "s", "s-", "f", "f0", "f01", "f01*", "p", "p0", "p0*", "b", "b0", "b01",
            "b01<", "x", "h", "h0", "h0=", "r;", "o+1;", "o+12;", "f01*1;", "r;x"};
        for (String text : tooEarly) {
            fault(text, text.length());
        }
        fault("q", 0);
        fault(";", 0);
        fault(" r", 0);
        fault("R", 0);
        fault("r ", 1);
        fault("r1", 1);
        fault("rr", 1);
        fault("r;;r", 2);
        fault("o1", 1);
        fault("o=1", 1);
        fault("o+x", 2);
        fault("o+-1", 2);
        fault("o+123", 4);
        fault("o+1+", 3);
        fault("f0*1", 2);
        fault("f01<1", 3);
        fault("f01*12", 5);
        fault("f012*1", 3);
        fault("p01*1", 2);
        fault("p0=1", 2);
        fault("p0*12", 4);
        fault("b01*1", 3);
        fault("b01<123", 6);
        fault("b01<-1", 4);
        fault("x12", 2);
        fault("x-", 1);
        fault("h0*1", 2);
        fault("h0=12", 4);
        fault("r;o+1;q", 6);
        fault("" + (char) ('r' + 256), 0);
        fault("x" + (char) 0x661, 1);
        fault("x/", 1);
        fault("x:", 1);
        fresh("promise 31, the latest call");
        given("o+1");
        due(-1, () -> x.faultPosition(), "no fault");
        run("r;q");
        write("r");
        due(2, () -> x.faultPosition(), "a fault");
        run(";x5");
        due(-1, () -> x.faultPosition(), "no fault, but refused");
    }

    private void fault(String text, int position) {
        fresh("promise 31");
        given("o+1");
        faultyText(position, text);
        due(NONE, () -> x.reason(0), "reason behind " + text);
    }

    private void promise32() {
        fresh("promise 32");
        due(NONE, () -> x.reason(2), "nothing was refused");
        due(ARGUMENT, () -> x.reason(3), "what 3");
        for (int odd : ODD) {
            due(ARGUMENT, () -> x.reason(odd), "what " + odd);
        }
        given("o+1");
        run("r;r;x3");
        check.same("of a text", "8 0 2", reasons());
        given("r");
        x.undo();
        x.save();
        x.restore();
        run("q");
        check.same("it stays", "8 0 2", reasons());
        refused("1 0 0", () -> x.person(50, false), "another call");
    }

    private void promise33() {
        fresh("promise 33");
        due(INDEX, () -> x.line(0), "nobody");
        given("s-7;o+20;s+0;o-12;h0=2;h3=9;f01*3 o+3;f40*9;f42*1");
        due(13, () -> x.line(0), "line 0");
        check.same("line 0", "s-7#2 1*3 4*9", lineText(13));
        due(INDEX, () -> x.character(13), "behind line 0");
        check.same("line 1", "o+20#0 0*3", person(1));
        check.same("line 2", "s0#0 4*1", person(2));
        check.same("line 3", "o-12#9", person(3));
        check.same("line 4", "o+3#0 0*9 2*1", person(4));
        due(INDEX, () -> x.line(5), "line 5");
        for (int odd : ODD) {
            due(INDEX, () -> x.line(odd), "line " + odd);
        }
        check.same("the line stays", "o+3#0 0*9 2*1", lineText(13));

        fresh("promise 33, the longest");
        given("s-20;o+1;o+1;o+1;o+1;o+1 f01*9;f02*9;f03*9;f04*9;f05*9");
        check.same("line 0", "s-20#0 1*9 2*9 3*9 4*9 5*9", person(0));
        due(26, () -> x.line(0), "length");
    }

    private void promise34() {
        fresh("promise 34");
        due(0, () -> x.beams(), "none");
        given("o+1;o+20;o-3;o-4;b30<5;b21<40");
        check.same("beams", "0-3<5 1-2<40", beams());
        given("h0=9;p3*1;p2*1;p1*9;p1*5;r");
        // 1, 6, -2, -3: by 4 and by 8.
        check.same("beams", "0-3<5 1-2<40", beams());
        given("b13<7;b02<2;r;r");
        check.same("beams", "0-3<5 1-2<40 1-3<7!! 0-2<2!!", beams());
        given("r");
        check.same("beams", "0-3<5 1-2<40", beams());
        due(12, () -> x.beams(), "length");

        fresh("promise 34, the longest");
        given("o+20;o+20;o+20;o-20;o-20;o-20;r b03<10;b04<11;b05<12;b13<37;b14<38;b15<39;r;r");
        check.same("beams", "0-3<10!! 0-4<11!! 0-5<12!! 1-3<37!! 1-4<38!! 1-5<39!!", beams());
        due(53, () -> x.beams(), "length");
    }

    private void promise35() {
        fresh("promise 35");
        due(INDEX, () -> x.character(0), "empty");
        given("o-1;s+12;b01<3");
        x.line(0);
        due('o', () -> x.character(0), "the first");
        due('-', () -> x.character(1), "the second");
        due('0', () -> x.character(4), "the last");
        for (int odd : new int[] {-1, 5, Integer.MIN_VALUE, Integer.MAX_VALUE}) {
            due(INDEX, () -> x.character(odd), "character " + odd);
        }
        x.undo();
        run("q");
        x.save();
        given("o+2");
        x.restore();
        due('o', () -> x.character(0), "the first stays");
        check.same("no beams", "", beams());
        due(INDEX, () -> x.character(0), "empty again");
    }
}
