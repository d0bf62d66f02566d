/** What a house answers, as one text each, so that it can be compared from one moment to the next. */
final class Answers {
    private Answers() {
    }

    /** All that belongs to the house itself, and the line; some 200 calls if it is full. */
    static String ofHouse(Called x) {
        StringBuilder all = new StringBuilder();
        for (int what = 0; what <= 9; what++) {
            all.append(x.account(what)).append(' ');
        }
        for (int person = 0; person < x.account(0); person++) {
            addPerson(all, x, person);
        }
        for (int beam = 0; beam < x.account(2); beam++) {
            addBeam(all, x, beam);
        }
        addSums(all, x);
        addLine(all, x);
        return all.toString();
    }

    private static void addPerson(StringBuilder all, Called x, int person) {
        all.append("\n").append(person).append(':');
        for (int what = 0; what <= 7; what++) {
            all.append(' ').append(x.personOf(person, what));
        }
        all.append(" mean ").append(x.mean(person)).append(" move ").append(x.wouldMove(person));
        all.append(" puller ").append(Check.told(() -> x.puller(person))).append(" camp ").append(x.camp(person));
        for (int other = 0; other < person; other++) {
            all.append(" *").append(x.weight(person, other));
        }
    }

    private static void addBeam(StringBuilder all, Called x, int beam) {
        all.append("\nbeam ").append(beam).append(':');
        for (int what = 0; what <= 4; what++) {
            all.append(' ').append(x.beamOf(beam, what));
        }
        all.append(" breaks ").append(Check.told(() -> x.breaksIn(beam)));
        all.append(" here ").append(x.weakest(beam));
    }

    private static void addSums(StringBuilder all, Called x) {
        all.append("\ncamps ").append(x.camps()).append(' ').append(x.campsAgain());
        all.append(" rests ").append(Check.told(() -> x.restsIn()));
        all.append(" left ").append(Check.told(() -> x.greatest(true)));
        all.append(" right ").append(Check.told(() -> x.greatest(false)));
        all.append(" mean ").append(Check.told(() -> x.meanTilt()));
        all.append(" plumb ").append(Check.told(() -> x.plumbShare()));
        all.append(" even ").append(x.isEven());
    }

    private static void addLine(StringBuilder all, Called x) {
        all.append("\nline ");
        String sign = Check.told(() -> x.character(0));
        for (int index = 1; sign.length() == 1; index++) {
            int next = index;
            all.append(sign);
            sign = Check.told(() -> x.character(next));
        }
        all.append(sign);
    }

    /** What stands beside the house: the length of the text buffer, and the fault position. */
    static String ofText(Called x) {
        return x.account(10) + " " + x.faultPosition();
    }

    static String ofReason(Called x) {
        return Check.told(() -> x.reason(0) + " " + x.reason(1) + " " + x.reason(2));
    }

    /** What undo and restore bring back; the house is another one behind it. */
    static String ofPast(Called x) {
        StringBuilder all = new StringBuilder();
        String left = Check.told(() -> x.undo());
        for (int times = 0; !left.startsWith("throws.") && times < 10; times++) {
            all.append("left ").append(left).append(": ").append(shortly(x)).append('\n');
            left = Check.told(() -> x.undo());
        }
        all.append(left).append(", restore ").append(Check.told(() -> x.restore()));
        return all.append(": ").append(shortly(x)).toString();
    }

    private static String shortly(Called x) {
        StringBuilder all = new StringBuilder();
        for (int what = 0; what <= 8; what++) {
            all.append(x.account(what)).append(' ');
        }
        for (int person = 0; person < x.account(0); person++) {
            for (int what : new int[] {0, 1, 5, 6, 7}) {
                all.append(x.personOf(person, what)).append(' ');
            }
        }
        return all.toString();
    }
}
