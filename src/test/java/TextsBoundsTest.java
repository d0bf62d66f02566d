import java.util.Set;

/** The sentences of promises 29 to 38, and of "Texts", that name a bound, a fault or an exception. */
public final class TextsBoundsTest extends Bench {
    private static final String TEXTS = "Terms, Texts";
    private static final String DIGITS = "0123456789";
    private static final String LATEST = "Returns the fault position of the text of the latest call of commands.";
    private static final String ALL_OR_NONE = "if one is refused, none is carried out.";

    /** Each beginning of a text, with all characters that can continue it; a "." tells that it can also end there. */
    private static final String[][] GOES_ON = {
        {"", "osfrpbxh"}, {"r;", "osfrpbxh"}, {"r;r;", "osfrpbxh"}, {"o-12;", "osfrpbxh"}, {"x0;", "osfrpbxh"},
        {"o", "+-"}, {"s", "+-"}, {"r;o", "+-"},
        {"o+", DIGITS}, {"o-", DIGITS}, {"s+", DIGITS}, {"s-", DIGITS},
        {"o+0", DIGITS + ";."}, {"o-9", DIGITS + ";."}, {"s+1", DIGITS + ";."}, {"s-2", DIGITS + ";."},
        {"o+00", ";."}, {"o-99", ";."}, {"s+20", ";."}, {"s-21", ";."},
        {"f", DIGITS}, {"f0", DIGITS}, {"f9", DIGITS}, {"f01", "*"}, {"f99", "*"}, {"f01*", DIGITS},
        {"f01*0", ";."}, {"f01*9", ";."},
        {"r", ";."}, {"r;r", ";."},
        {"p", DIGITS}, {"p0", "*"}, {"p9", "*"}, {"p0*", DIGITS}, {"p0*0", ";."}, {"p9*9", ";."},
        {"b", DIGITS}, {"b0", DIGITS}, {"b9", DIGITS}, {"b01", "<"}, {"b99", "<"}, {"b01<", DIGITS},
        {"b01<0", DIGITS + ";."}, {"b01<9", DIGITS + ";."}, {"b01<00", ";."}, {"b01<99", ";."},
        {"x", DIGITS}, {"x0", ";."}, {"x9", ";."},
        {"h", DIGITS}, {"h0", "="}, {"h9", "="}, {"h0=", DIGITS}, {"h0=0", ";."}, {"h9=9", ";."},
        {"f01*3;b01<40;h1=9;p0*1;s-20;x", DIGITS}, {"f01*3;b01<4;h1=9;p0*1;s-2;o+1", DIGITS + ";."},
    };

    public static void main(String[] args) {
        TextsBoundsTest test = new TextsBoundsTest();
        test.promise29();
        test.oneOrMore();
        test.numbersInTexts();
        test.kindsOfCommands();
        test.whatGoesOn();
        test.promise30();
        test.promise30Refused();
        test.promise31();
        test.promise32();
        test.promise33();
        test.promise34();
        test.promise35();
        test.promise36();
        test.promise37();
        test.promise38();
        test.check.close();
    }

    private void promise29() {
        sentence("Promise 29", "if the buffer contains 60 characters");
        called("o+1");
        for (int length = 1; length <= 60; length++) {
            char next = length % 2 == 0 ? ';' : 'r';
            due(length, () -> x.append(next), "append");
        }
        due(STATE, () -> x.append('r'), "the 61st");
        due(STATE, () -> x.append(';'), "the 61st");
        due(60, () -> x.account(10), "characters");
        check.same("a text of 60 that ends too early", ARGUMENT, run(""));
        due(60, () -> x.faultPosition(), "its fault");
        due(1, () -> x.append('r'), "the first again");
        check.same("the rest of 59", "30", run(";r".repeat(29)));
        due(30, () -> x.account(4), "rounds");

        sentence("Promise 29", "Appends a character to the text buffer.");
        int length = 0;
        for (int character : new int[] {0, 9, 10, 32, 127, 128, 255, 256, 'r' + 256, 0x661, 0xd800, 0xffff}) {
            length++;
            int want = length;
            due(want, () -> x.append((char) character), "character " + character);
        }
        check.same("a faulty text", ARGUMENT, run(""));
        check.same("buffer and fault", "0 0", Answers.ofText(x));
    }

    private void oneOrMore() {
        sentence(TEXTS, "The text buffer holds one or more commands with \";\" between them");
        called("o+1");
        faultyText(0, "");
        faultyText(0, ";");
        check.same("one", "1", run("r"));
        faultyText(2, "r;");
        faultyText(1, "rr");
        faultyText(1, "r r");
        check.same("two", "2", run("r;r"));
        faultyText(2, "r;;r");
        faultyText(4, "r;r;");
        due(3, () -> x.account(4), "rounds");
        check.same("as many as fit", "30", run("r;".repeat(29) + "r"));
        faultyText(60, "r;".repeat(30));
        faultyText(0, ";" + "r;".repeat(29) + "r");
        due(33, () -> x.account(4), "rounds");
    }

    private void numbersInTexts() {
        sentence(TEXTS, "Numbers have one or two digits, persons and beams one.");
        check.same("one digit", "2", run("o+7;s-7"));
        check.same("two digits", "4", run("o-07;s+19;o-00;s+20"));
        check.same("persons", "o+7#0 | s-7#0 | o-7#0 | s+19#0 | o0#0 | s+20#0", people());
        check.same("limits", "4", run("b01<9;b02<09;b03<40;b04<00"));
        check.same("beams", "0-1<9 0-2<9 0-3<40 0-4<0", beams());
        faultyText(2, "o+");
        faultyText(4, "o+123");
        faultyText(4, "s-000");
        faultyText(4, "b01<");
        faultyText(6, "b01<040");
        faultyText(2, "x00");
        faultyText(2, "p00*1");
        faultyText(2, "h00=1");
        faultyText(3, "f012*1");
        faultyText(3, "b012<1");
        sentence(TEXTS, "lets an open or a stubborn person come");
        check.same("signs of 0", "4", run("o+0;o-0;s+0;s-0"));
        check.same("persons", "o0#0 | o0#0 | s0#0 | s0#0", people());
    }

    private void kindsOfCommands() {
        sentence(TEXTS, "and a digit makes two friends with a weight, or no friends by 0;");
        called("o+1;o+2");
        refusedText("5 0 0", "f01*0");
        check.same("a weight of 1", "1", run("f01*1"));
        due(1, () -> x.weight(0, 1), "weight");
        check.same("a weight of 9", "1", run("f10*9"));
        due(9, () -> x.weight(0, 1), "weight");
        check.same("a weight of 0", "1", run("f01*0"));
        due(0, () -> x.account(1), "pairs");

        sentence(TEXTS, "and a digit tells a fact;");
        called("o+20;o+0");
        refusedText("1 0 0", "p0*0");
        check.same("strength 1 and 9", "2", run("p0*1;p0*9"));
        due(10, () -> x.personOf(0, 0), "tilt");
        refusedText("6 0 0", "p1*1");
        refusedText("3 2 0", "p2*1");

        sentence(TEXTS, "and a number puts a beam;");
        called("o+20;o+0");
        refusedText("1 0 0", "b01<41");
        check.same("limit 40", "1", run("b10<40"));
        refusedText("9 0 0", "b01<40");
        refusedText("3 2 0", "b02<40");

        sentence(TEXTS, "and a beam takes it away;");
        called("o+20;o+0;b01<40");
        refusedText("8 1 0", "x1");
        refusedText("8 1 0", "x9");
        check.same("beam 0", "1", run("x0"));
        refusedText("8 0 0", "x0");

        sentence(TEXTS, "and a digit tells the habit.");
        called("o+20");
        refusedText("5 0 0", "h0=0");
        check.same("habit 9", "1", run("h0=9"));
        refusedText("5 9 0", "h0=9");
        refusedText("3 1 0", "h1=9");
        check.same("habit 0", "1", run("h0=0"));

        sentence(TEXTS, "\"r\" is a round;");
        refusedText("10 0 0", "r");
        called("o+20");
        check.same("one there", "1", run("r"));
    }

    private void whatGoesOn() {
        sentence(TEXTS, "The fault position of a text is the index of its first character that cannot continue such a");
        for (String[] goesOn : GOES_ON) {
            boolean canEnd = goesOn[1].endsWith(".");
            fault(goesOn[0], canEnd ? -1 : goesOn[0].length());
            String next = canEnd ? goesOn[1].substring(0, goesOn[1].length() - 1) : goesOn[1];
            for (int character = 0; character < 384; character++) {
                goesOn(goesOn[0], next, (char) character);
            }
            for (int digit = 0; digit <= 9; digit++) {
                goesOn(goesOn[0], next, (char) (0x660 + digit));
                goesOn(goesOn[0], next, (char) (0xff10 + digit));
            }
            goesOn(goesOn[0], next, (char) 0xffff);
        }
    }

    private void goesOn(String text, String next, char character) {
        if (next.indexOf(character) < 0) {
            fault(text + character, text.length());
            fault(text + character + "r;r", text.length());
            return;
        }
        again();
        boolean isWhole = !run(text + character).equals(ARGUMENT);
        check.same("fault of " + text + character, isWhole ? -1 : text.length() + 1, x.faultPosition());
    }

    private void fault(String text, int position) {
        again();
        boolean hasFault = run(text).equals(ARGUMENT);
        check.same(text + " has a fault", position >= 0, hasFault);
        check.same("fault of " + text, position, x.faultPosition());
        check.same("buffer behind " + text, 0, x.account(10));
    }

    private void promise30() {
        sentence("Promise 30", "Returns the number of commands.");
        for (int commands = 1; commands <= 30; commands++) {
            again();
            called("o+1");
            check.same("commands", String.valueOf(commands), run("r;".repeat(commands - 1) + "r"));
            check.same("rounds and changes", commands + " 2", x.account(4) + " " + x.account(9));
        }

        sentence("Promise 30", "if the text has a fault");
        faultyText(0, "");
        faultyText(0, "q");
        faultyText(5, "o+1;rr");
        faultyText(10, "r;r;r;r;o+");
        check.same("without a fault", "1", run("o+1"));

        sentence("Promise 30", "if a command is refused; the reason is kept");
        refusedText("10 0 0", "r");
        refusedText("1 0 1", "o+20;o+21");
        check.same("none is refused", "2", run("o+20;o-20"));
        check.same("the reason stays", "1 0 1", reasons());

        sentence("Promise 30", "The buffer is empty afterwards, also if an exception is thrown.");
        called("o+1");
        check.same("a good text", "1", run("r"));
        due(0, () -> x.account(10), "buffer behind a good text");
        faultyText(2, "r;q");
        refusedText("8 0 1", "r;x0");
        check.same("a good text", "1", run("r"));
        due(2, () -> x.account(4), "rounds");

        sentence(TEXTS, "The commands are carried out as the methods would");
        check.same("all kinds", "10", run("o+20;s-20;f01*3;r;p1*4;b10<9;r;h0=2;x0;o-1"));
        Called byText = x;
        x = new Called();
        called("o+20;s-20;f01*3;r;p1*4;b10<9;r;h0=2;x0;o-1");
        String answers = Answers.ofHouse(x);
        check.same("changes by calls", 8, x.account(9));
        check.same("changes by a text", 1, byText.account(9));
        check.same("all else", answers.replaceFirst(" 8 \n", " 1 \n"), Answers.ofHouse(byText));
    }

    private void promise30Refused() {
        sentence("Promise 30", ALL_OR_NONE);
        called("o+20;o-20;f01*3;b01<9");
        refusedText("8 1 0", "x1");
        refusedText("8 1 1", "r;x1");
        refusedText("8 0 1", "x0;x0");
        refusedText("8 0 2", "r;x0;x0;r");
        // Behind a 3rd creak the beam is gone; the tilts of 20 and -20 need no friends for it.
        refusedText("8 0 4", "f01*0;r;r;r;x0");
        refusedText("5 3 0", "f01*3");
        refusedText("5 3 1", "o+1;f10*3");
        refusedText("1 0 3", "o+1;o+2;h0=9;o+21");
        refusedText("2 6 4", "o+1;o+1;o+1;o+1;o+1");
        check.same("as many as can be", "4", run("o+1;o+1;o+1;o+1"));
        due(5, () -> x.account(9), "changes");
    }

    private void promise31() {
        sentence("Promise 31", LATEST);
        called("o+1");
        due(-1, () -> x.faultPosition(), "there was no such call");
        write("q");
        due(-1, () -> x.faultPosition(), "it was not called yet");
        check.same("a fault", ARGUMENT, run(""));
        due(0, () -> x.faultPosition(), "a fault at 0");
        write("r;r;r");
        due(0, () -> x.faultPosition(), "still that of the latest call");
        check.same("three", "3", run(""));
        due(-1, () -> x.faultPosition(), "that text had no fault");
        faultyText(5, "r;r;rr");
        refusedText("8 0 0", "x5");
        due(-1, () -> x.faultPosition(), "refused, without a fault");

        sentence(TEXTS, "or the length of the text if it ends too early.");
        called("o+1");
        String whole = "o+12;s-1;f01*3;r;p0*1;b01<40;x0;h0=9";
        Set<Integer> wholeLengths = Set.of(3, 4, 8, 14, 16, 21, 27, 28, 31, 36);
        for (int length = 0; length <= whole.length(); length++) {
            fault(whole.substring(0, length), wholeLengths.contains(length) ? -1 : length);
        }
        fault("o+1;".repeat(14) + "o+1", -1);
        fault("o+1;".repeat(15), 60);
        fault("o+1;".repeat(14) + "o+12", -1);
        fault("o+1;".repeat(14) + "b01<", 60);
        fault("o+1;".repeat(14) + "b01+", 59);
    }

    private void promise32() {
        sentence("Promise 32", "if what is not from 0 to 2");
        due(ARGUMENT, () -> x.reason(3), "what 3, nothing refused");
        due(ARGUMENT, () -> x.reason(-1), "what -1, nothing refused");
        called("o+1");
        refusedText("8 0 1", "r;x0");
        due(ARGUMENT, () -> x.reason(3), "what 3");
        due(ARGUMENT, () -> x.reason(-1), "what -1");
        for (int odd : ODD) {
            due(ARGUMENT, () -> x.reason(odd), "what " + odd);
        }

        sentence("Promise 32", "if nothing was refused");
        for (int what = 0; what <= 2; what++) {
            int which = what;
            due(NONE, () -> x.reason(which), "a new object, what " + what);
        }
        called("o+1");
        faultyText(0, "q");
        due(INDEX, () -> x.line(1), "another exception");
        due(STATE, () -> x.restore(), "another exception");
        due(NONE, () -> x.reason(0), "nothing was refused yet");
        refused("8 0 0", () -> x.remove(0), "refused");
        due(8, () -> x.reason(0), "the reason");
        called("o+2;r");
        check.same("calls that are not refused leave it", "8 0 0", reasons());
        faultyText(1, "rq");
        check.same("a faulty text leaves it", "8 0 0", reasons());
        check.same("a good text", "2", run("r;r"));
        check.same("a good text leaves it", "8 0 0", reasons());
    }

    private void promise33() {
        sentence("Promise 33", "if there is no such person");
        called("o+1;o+2");
        due(5, () -> x.line(1), "the line");
        due(INDEX, () -> x.line(2), "person 2 of two");
        due(INDEX, () -> x.line(-1), "person -1");
        check.same("the line before stays", "o+2#0", lineText(5));
        due(INDEX, () -> x.character(5), "behind it");

        sentence("Promise 33", "\"o\" or \"s\" for open or stubborn, the tilt, with \"+\" or \"-\" unless it is 0");
        called("o-20;s+20;o-1;s+1;o+0;s+0;h0=9");
        check.same("lines", "o-20#9 | s+20#0 | o-1#0 | s+1#0 | o0#0 | s0#0", people());
        called("p2*1;p3*1;p0*9;p0*7");
        check.same("behind facts", "o-10#9 | s+20#0 | o0#0 | s0#0 | o0#0 | s0#0", people());
        called("p0*4");
        check.same("9", "o-9#9", person(0));

        sentence("Promise 33", "for each friend, by their numbers, a blank, the friend, \"*\" and the weight");
        called("s-7;o+20;s+0;o-12;o+3;o+1;h0=2");
        check.same("no friends", "s-7#2", person(0));
        called("f04*9;f03*4");
        check.same("two friends", "s-7#2 3*4 4*9", person(0));
        check.same("the other side", "o+3#0 0*9", person(4));
        called("f05*1;f02*1;f01*9");
        check.same("all friends", "s-7#2 1*9 2*1 3*4 4*9 5*1", person(0));
        due(25, () -> x.line(0), "length");
        called("f03*0");
        check.same("one less", "s-7#2 1*9 2*1 4*9 5*1", person(0));

        sentence("Promise 33", "as in \"s-7#2 0*3 4*9\".");
        called("o+1;s-7;o+1;o+1;o+1;h1=2;f10*3;f41*9");
        due(13, () -> x.line(1), "length");
        check.same("line", "s-7#2 0*3 4*9", lineText(13));

        sentence("Promise 33", "in place of the line before");
        called("o-20;o+1;f01*3;b01<40");
        due(10, () -> x.line(0), "a long one");
        due(5 + 4, () -> x.line(1), "a shorter one");
        due(INDEX, () -> x.character(9), "behind it");
        check.same("the shorter one", "o+1#0 0*3", lineText(9));
        due(6, () -> x.beams(), "the beams");
        check.same("the beams", "0-1<40", lineText(6));
        due(INDEX, () -> x.character(6), "behind it");
    }

    private void promise34() {
        sentence("Promise 34", "Writes the beams, in place of the line before");
        due(0, () -> x.beams(), "no beams");
        called("o+20;o+19;o-20;o-20");
        x.line(0);
        due(0, () -> x.beams(), "no beams, behind a line");
        due(INDEX, () -> x.character(0), "empty");

        sentence("Promise 34", "as in \"0-3<5!! 1-2<40\".");
        called("o+20;o+19;o-20;o-20;b30<5;b21<40;r;r");
        due(14, () -> x.beams(), "length");
        check.same("beams", "0-3<5!! 1-2<40", lineText(14));

        sentence("Promise 34", "\"!\" for each time that it creaked, with a blank between two");
        called("o+20;o+19;o-20;o-20;b20<39;b32<0");
        check.same("none creaked", "0-2<39 2-3<0", beams());
        called("r;b31<38");
        check.same("one creaked", "0-2<39! 2-3<0 1-3<38", beams());
        called("r");
        check.same("twice and once", "0-2<39!! 2-3<0 1-3<38!", beams());
        due(22, () -> x.beams(), "length");
        called("r");
        check.same("one broke", "2-3<0 1-3<38!!", beams());
        called("x0");
        check.same("one is left", "1-3<38!!", beams());
        again();
        called("o+20;o+20;o+20;o-20;o-20;o-20;b30<10;b40<11;b50<12;b31<13;b41<14;b51<39;r;r");
        check.same("the longest", "0-3<10!! 0-4<11!! 0-5<12!! 1-3<13!! 1-4<14!! 1-5<39!!", beams());
        due(53, () -> x.beams(), "length");
        due('!', () -> x.character(52), "the last");
        due(INDEX, () -> x.character(53), "behind it");
    }

    private void promise35() {
        sentence("Promise 35", "Returns a character of the line, which is empty at first.");
        due(INDEX, () -> x.character(0), "a new object");
        called("o+1");
        due(INDEX, () -> x.character(0), "nothing was written yet");

        sentence("Promise 35", "if there is no such index");
        called("o+12");
        due(6, () -> x.line(0), "line");
        check.same("the line", "o+12#0", lineText(6));
        due(INDEX, () -> x.character(6), "behind it");
        due(INDEX, () -> x.character(-1), "ahead of it");
        for (int odd : ODD) {
            due(INDEX, () -> x.character(odd), "index " + odd);
        }
        called("o+1;f01*9");
        check.same("it stays as it was written", "o+12#0", lineText(6));
        due(INDEX, () -> x.character(6), "behind it");
    }

    private void promise36() {
        sentence("Promise 36", "if there are none");
        due(ARITHMETIC, () -> x.meanTilt(), "nobody");
        called("o-1");
        due(-1.0, () -> x.meanTilt(), "one");
        x.undo();
        due(ARITHMETIC, () -> x.meanTilt(), "nobody again");

        sentence("Promise 36", "the sum divided by their number, both as doubles.");
        called("o+20");
        due(20.0, () -> x.meanTilt(), "one");
        called("o+20;o-19");
        due(7.0, () -> x.meanTilt(), "21 by 3");
        called("o-20");
        due(0.25, () -> x.meanTilt(), "1 by 4");
        called("o-1;s-1");
        due(-1.0 / 6.0, () -> x.meanTilt(), "-1 by 6");
        called("p5*1");
        due(0.0, () -> x.meanTilt(), "0 by 6");
        again();
        called("o-20;o-20;o-20;o-20;o-20;o-20");
        due(-20.0, () -> x.meanTilt(), "-120 by 6");
    }

    private void promise37() {
        sentence("Promise 37", "if there are none");
        due(ARITHMETIC, () -> x.plumbShare(), "nobody");
        called("o+0");
        due(1.0f, () -> x.plumbShare(), "one");
        x.undo();
        due(ARITHMETIC, () -> x.plumbShare(), "nobody again");

        sentence("Promise 37", "Returns what part of the opinions is plumb, both numbers as floats.");
        called("o+1");
        due(0.0f, () -> x.plumbShare(), "0 of 1");
        called("o-1;o+0");
        due(1.0f / 3.0f, () -> x.plumbShare(), "1 of 3");
        called("p0*1");
        due(2.0f / 3.0f, () -> x.plumbShare(), "2 of 3");
        called("p1*1");
        due(1.0f, () -> x.plumbShare(), "3 of 3");
        called("o+5;o+5;o+5");
        due(0.5f, () -> x.plumbShare(), "3 of 6");
        called("p5*5;p4*5");
        due(5.0f / 6.0f, () -> x.plumbShare(), "5 of 6");
    }

    private void promise38() {
        sentence("Promise 38", "if what is not from 0 to 10");
        called("o+20;s-20;o+0;f01*3;f12*1;b01<9;b02<39;r;p0*1");
        write("r;");
        // 0: (20 - 60) / 4 = -10, by 10 to 10, and by a fact to 9; 1: (-20 + 60) / 5 = 8, by 5 to -15; 2: -20 / 2.
        check.same("0 to 10", "3 2 2 0 1 1 1 0 -16 8 2", accounts());
        due(ARGUMENT, () -> x.account(11), "what 11");
        due(ARGUMENT, () -> x.account(-1), "what -1");
        for (int odd : ODD) {
            due(ARGUMENT, () -> x.account(odd), "what " + odd);
        }

        sentence("Promise 38", "6 for how often beams creaked so far, 7 for the beams that broke so far");
        called("o+20;o-20;b01<9;r;r");
        check.same("twice", "2 0", x.account(6) + " " + x.account(7));
        called("x0");
        check.same("taken away, and not broken", "2 0", x.account(6) + " " + x.account(7));
        called("b01<40;r");
        check.same("one that does not creak", "2 0", x.account(6) + " " + x.account(7));
        called("x0;b01<39;r;r;r;r");
        check.same("one that broke", "5 1", x.account(6) + " " + x.account(7));
        x.undo();
        x.undo();
        check.same("undone", "4 0", x.account(6) + " " + x.account(7));

        sentence("Promise 38", "1 for the pairs of friends");
        called("o+0;o+0;o+0;o+0;o+0;o+0");
        int pairs = 0;
        for (int one = 0; one < 6; one++) {
            for (int other = one + 1; other < 6; other++) {
                x.friends(other, one, 1 + pairs % 9);
                pairs++;
                check.same("pairs", pairs, x.account(1));
            }
        }
        called("f05*0");
        due(14, () -> x.account(1), "one less");
    }
}
