import java.util.ArrayDeque;
import java.util.ArrayList;
import java.util.Comparator;
import java.util.Deque;
import java.util.List;
import java.util.NoSuchElementException;
import java.util.SortedMap;
import java.util.TreeMap;
import java.util.function.Predicate;
import java.util.regex.Matcher;
import java.util.regex.Pattern;

/** The document told a second time, with the library's lists and patterns and a new state for each change. */
final class Model {
    private static final Pattern COMMAND = Pattern.compile(
            "[os][+-][0-9]{1,2}|f[0-9][0-9]\\*[0-9]|r|p[0-9]\\*[0-9]|b[0-9][0-9]<[0-9]{1,2}|x[0-9]|h[0-9]=[0-9]");
    private static final Pattern TEXT = Pattern.compile("(?:" + COMMAND + ")(?:;(?:" + COMMAND + "))*");

    record Person(int tilt, int habit, boolean stubborn, int facts, int went) {
        int step() {
            return stubborn ? (10 - habit) / 2 : 10 - habit;
        }

        Person withHabit(int habit) {
            return new Person(tilt, habit, stubborn, facts, went);
        }
    }

    record Beam(int low, int high, int limit, int creaks) {
    }

    record State(List<Person> persons, SortedMap<Integer, Integer> weights, List<Beam> beams, int rounds, int facts,
            int creaked, int broken) {
        State copy() {
            return new State(new ArrayList<>(persons), new TreeMap<>(weights), new ArrayList<>(beams), rounds, facts,
                    creaked, broken);
        }

        int weight(int one, int other) {
            return weights.getOrDefault(Math.min(one, other) * 10 + Math.max(one, other), 0);
        }

        int differ(Beam beam) {
            return Math.abs(persons.get(beam.low).tilt - persons.get(beam.high).tilt);
        }
    }

    /** What is refused, told on the way up. */
    static final class Refusal extends RuntimeException {
        private static final long serialVersionUID = 1L;

        final int reason;
        final int detail;

        Refusal(int reason, int detail) {
            super(null, null, false, false);
            this.reason = reason;
            this.detail = detail;
        }
    }

    private State now = new State(new ArrayList<>(), new TreeMap<>(), new ArrayList<>(), 0, 0, 0, 0);
    private State saved;
    private final Deque<State> past = new ArrayDeque<>();
    private String buffer = "";
    private String line = "";
    private int faultPosition = -1;
    private int[] reason;
    private int answer;

    /** A change by the sign of its command, with its numbers; refused ones throw. */
    private State changed(State s, char kind, int a, int b, int c) {
        int n = s.persons.size();
        State t = s.copy();
        switch (kind) {
            case 'o':
            case 's':
                refuseIf(a < -20 || a > 20, 1, 0);
                refuseIf(n == 6, 2, 6);
                t.persons.add(new Person(a, 0, kind == 's', 0, 0));
                answer = n;
                return t;
            case 'f':
                refusePair(n, a, b, c, 9);
                refuseIf(s.weight(a, b) == c, 5, c);
                answer = s.weight(a, b);
                t.weights.put(Math.min(a, b) * 10 + Math.max(a, b), c);
                return t;
            case 'r':
                refuseIf(n == 0, 10, s.rounds);
                return afterRound(s);
            case 'p':
                refuseIf(a < 0 || a >= n, 3, n);
                refuseIf(b < 1 || b > 9, 1, 0);
                Person told = s.persons.get(a);
                int force = b - told.habit / 3;
                refuseIf(told.tilt == 0, 6, told.habit);
                refuseIf(force <= 0, 7, b);
                answer = told.tilt > 0 ? Math.max(0, told.tilt - force) : Math.min(0, told.tilt + force);
                t.persons.set(a, new Person(answer, told.habit, told.stubborn, told.facts + 1, told.went));
                return new State(t.persons, t.weights, t.beams, t.rounds, t.facts + 1, t.creaked, t.broken);
            case 'b':
                refusePair(n, a, b, c, 40);
                for (int beam = 0; beam < s.beams.size(); beam++) {
                    Beam other = s.beams.get(beam);
                    refuseIf(other.low + other.high == a + b && (other.low == a || other.high == a), 9, beam);
                }
                refuseIf(s.beams.size() == 6, 2, 6);
                answer = s.beams.size();
                t.beams.add(new Beam(Math.min(a, b), Math.max(a, b), c, 0));
                return t;
            case 'x':
                refuseIf(a < 0 || a >= s.beams.size(), 8, s.beams.size());
                t.beams.remove(a);
                answer = t.beams.size();
                return t;
            default:
                refuseIf(a < 0 || a >= n, 3, n);
                refuseIf(b < 0 || b > 9, 1, 0);
                answer = s.persons.get(a).habit;
                refuseIf(answer == b, 5, b);
                t.persons.set(a, s.persons.get(a).withHabit(b));
                return t;
        }
    }

    private static void refuseIf(boolean applies, int reason, int detail) {
        if (applies) {
            throw new Refusal(reason, detail);
        }
    }

    private static void refusePair(int n, int a, int b, int number, int most) {
        refuseIf(a < 0 || a >= n || b < 0 || b >= n, 3, n);
        refuseIf(a == b, 4, a);
        refuseIf(number < 0 || number > most, 1, 0);
    }

    private static int meanOf(State s, int person) {
        List<Integer> tilts = new ArrayList<>();
        for (int other = 0; other < s.persons.size(); other++) {
            int times = other == person ? 1 + s.persons.get(person).habit : s.weight(person, other);
            for (int time = 0; time < times; time++) {
                tilts.add(s.persons.get(other).tilt);
            }
        }
        return tilts.stream().mapToInt(tilt -> tilt).sum() / tilts.size();
    }

    private static int moveOf(State s, int person) {
        Person p = s.persons.get(person);
        int way = meanOf(s, person) - p.tilt;
        return way < 0 ? Math.max(way, -p.step()) : Math.min(way, p.step());
    }

    private State afterRound(State s) {
        List<Person> persons = new ArrayList<>();
        int moved = 0;
        for (int person = 0; person < s.persons.size(); person++) {
            Person p = s.persons.get(person);
            int move = moveOf(s, person);
            int far = Math.abs(move);
            moved += move == 0 ? 0 : 1;
            int habit = far == 0 ? p.habit + 1 : far > 2 ? p.habit - 1 : p.habit;
            persons.add(new Person(p.tilt + move, habit > 9 ? 9 : habit < 0 ? 0 : habit, p.stubborn, p.facts,
                    p.went + far));
        }
        State t = new State(persons, s.weights, s.beams, s.rounds + 1, s.facts, s.creaked, s.broken);
        List<Beam> left = new ArrayList<>();
        int creaked = 0;
        for (Beam beam : s.beams) {
            int creaks = t.differ(beam) > beam.limit ? 1 : 0;
            creaked += creaks;
            if (beam.creaks + creaks < 3) {
                left.add(new Beam(beam.low, beam.high, beam.limit, beam.creaks + creaks));
            }
        }
        answer = moved;
        return new State(persons, new TreeMap<>(s.weights), left, s.rounds + 1, s.facts, s.creaked + creaked,
                s.broken + s.beams.size() - left.size());
    }

    private void accept(State next) {
        past.addLast(now);
        if (past.size() > 8) {
            past.removeFirst();
        }
        now = next;
    }

    Object change(char kind, int a, int b, int c) {
        try {
            accept(changed(now, kind, a, b, c));
            return answer;
        } catch (Refusal refusal) {
            reason = new int[] {refusal.reason, refusal.detail, 0};
            throw new UnsupportedOperationException();
        }
    }

    Object append(char character) {
        if (buffer.length() == 60) {
            throw new IllegalStateException();
        }
        buffer += character;
        return buffer.length();
    }

    static int faultOf(String text) {
        if (TEXT.matcher(text).matches()) {
            return -1;
        }
        for (int end = 1; end <= text.length(); end++) {
            Matcher matcher = TEXT.matcher(text.substring(0, end));
            // A beginning that could still become a text makes the matcher run against its end.
            if (!matcher.matches() && !matcher.hitEnd()) {
                return end - 1;
            }
        }
        return text.length();
    }

    Object commands() {
        String text = buffer;
        buffer = "";
        faultPosition = faultOf(text);
        if (faultPosition >= 0) {
            throw new IllegalArgumentException();
        }
        String[] parts = text.split(";");
        State next = now;
        for (int command = 0; command < parts.length; command++) {
            try {
                next = carriedOut(next, parts[command]);
            } catch (Refusal refusal) {
                reason = new int[] {refusal.reason, refusal.detail, command};
                throw new UnsupportedOperationException();
            }
        }
        accept(next);
        return parts.length;
    }

    private State carriedOut(State s, String part) {
        char kind = part.charAt(0);
        if (kind == 'o' || kind == 's') {
            return changed(s, kind, Integer.parseInt(part.substring(1)), 0, 0);
        }
        int first = part.length() > 1 ? part.charAt(1) - '0' : 0;
        if (kind == 'f' || kind == 'b') {
            return changed(s, kind, first, part.charAt(2) - '0', Integer.parseInt(part.substring(4)));
        }
        return changed(s, kind, first, part.length() > 3 ? part.charAt(3) - '0' : 0, 0);
    }

    private Person at(int person) {
        if (person < 0 || person >= now.persons.size()) {
            throw new IndexOutOfBoundsException();
        }
        return now.persons.get(person);
    }

    private Beam beamAt(int beam) {
        if (beam < 0 || beam >= now.beams.size()) {
            throw new IndexOutOfBoundsException();
        }
        return now.beams.get(beam);
    }

    private int friendsOf(int person) {
        return (int) persons(other -> now.weight(person, other) > 0).stream().count();
    }

    private int weightsOf(int person) {
        return persons(other -> true).stream().mapToInt(other -> now.weight(person, other)).sum();
    }

    private List<Integer> persons(Predicate<Integer> which) {
        List<Integer> persons = new ArrayList<>();
        for (int person = 0; person < now.persons.size(); person++) {
            if (which.test(person)) {
                persons.add(person);
            }
        }
        return persons;
    }

    private static int listed(int what, int... numbers) {
        if (what < 0 || what >= numbers.length) {
            throw new IllegalArgumentException();
        }
        return numbers[what];
    }

    Object personOf(int person, int what) {
        Person p = at(person);
        return listed(what, p.tilt, p.habit, p.stubborn ? 1 : 0, p.step(), friendsOf(person), weightsOf(person),
                p.facts, p.went);
    }

    Object weight(int one, int other) {
        at(one);
        at(other);
        return now.weight(one, other);
    }

    Object beamOf(int beam, int what) {
        Beam b = beamAt(beam);
        return listed(what, b.low, b.high, b.limit, b.creaks, now.differ(b));
    }

    Object lean(int person) {
        return Integer.signum(at(person).tilt);
    }

    Object mean(int person) {
        at(person);
        return meanOf(now, person);
    }

    Object wouldMove(int person) {
        at(person);
        return moveOf(now, person);
    }

    Object puller(int person) {
        int tilt = at(person).tilt;
        Comparator<Integer> byPull = Comparator.comparing(
                other -> now.weight(person, other) * Math.abs(now.persons.get(other).tilt - tilt));
        List<Integer> pullers = persons(other -> now.weight(person, other) > 0
                && now.persons.get(other).tilt != tilt);
        return first(pullers, byPull.reversed());
    }

    private static int first(List<Integer> candidates, Comparator<Integer> order) {
        return candidates.stream().sorted(order.thenComparing(Comparator.naturalOrder())).findFirst()
                .orElseThrow(NoSuchElementException::new);
    }

    Object force(int person, int strength) {
        Person p = at(person);
        if (strength < 1 || strength > 9) {
            throw new IllegalArgumentException();
        }
        return Math.max(0, strength - p.habit / 3);
    }

    Object factsFor(int person, int strength) {
        int force = (Integer) force(person, strength);
        int left = Math.abs(at(person).tilt);
        if (left > 0 && force == 0) {
            throw new NoSuchElementException();
        }
        int facts = 0;
        for (; left > 0; left -= force) {
            facts++;
        }
        return facts;
    }

    Object tiltIn(int person, int rounds) {
        at(person);
        if (rounds < 0 || rounds > 30) {
            throw new IllegalArgumentException();
        }
        State s = now;
        for (int round = 0; round < rounds; round++) {
            s = afterRound(s);
        }
        return s.persons.get(person).tilt;
    }

    Object restsIn() {
        if (now.persons.isEmpty()) {
            throw new NoSuchElementException();
        }
        State s = now;
        for (int rounds = 0; rounds <= 99; rounds++) {
            s = afterRound(s);
            if (answer == 0) {
                return rounds;
            }
        }
        throw new NoSuchElementException();
    }

    Object breaksIn(int beam) {
        Beam b = beamAt(beam);
        State s = now;
        for (int round = 1; round <= 99; round++) {
            s = afterRound(s);
            if (s.beams.stream().noneMatch(left -> left.low == b.low && left.high == b.high)) {
                return round;
            }
        }
        throw new NoSuchElementException();
    }

    private int campOf(int person) {
        int side = Integer.signum(now.persons.get(person).tilt);
        if (side == 0) {
            return 0;
        }
        List<Integer> found = new ArrayList<>(List.of(person));
        for (int next = 0; next < found.size(); next++) {
            int member = found.get(next);
            found.addAll(persons(other -> now.weight(member, other) > 0 && !found.contains(other)
                    && Integer.signum(now.persons.get(other).tilt) == side));
        }
        return found.stream().mapToInt(member -> 1 << member).sum();
    }

    Object camp(int person) {
        at(person);
        return campOf(person);
    }

    Object camps() {
        return (int) persons(person -> true).stream().map(this::campOf).filter(camp -> camp != 0).distinct().count();
    }

    Object greatest(boolean isLeft) {
        Comparator<Integer> byTilt = Comparator.comparing(person -> now.persons.get(person).tilt);
        return first(persons(person -> isLeft ? at(person).tilt < 0 : at(person).tilt > 0),
                isLeft ? byTilt : byTilt.reversed());
    }

    private static int placed(List<Integer> all, Comparator<Integer> order, int place) {
        if (place < 0 || place >= all.size()) {
            throw new NoSuchElementException();
        }
        all.sort(order.thenComparing(Comparator.naturalOrder()));
        return all.get(place);
    }

    Object ranked(int measure, int place) {
        if (measure < 0 || measure > 3) {
            throw new IllegalArgumentException();
        }
        Comparator<Integer> order = Comparator.comparing(person -> -listed(measure, at(person).tilt,
                Math.abs(at(person).tilt), at(person).habit, weightsOf(person)));
        return placed(persons(person -> true), order, place);
    }

    Object weakest(int place) {
        List<Integer> beams = new ArrayList<>();
        for (int beam = 0; beam < now.beams.size(); beam++) {
            beams.add(beam);
        }
        Comparator<Integer> bySpare = Comparator.comparing(beam -> beamAt(beam).limit - now.differ(beamAt(beam)));
        return placed(beams, bySpare.thenComparing(beam -> -beamAt(beam).creaks), place);
    }

    Object faultPosition() {
        return faultPosition;
    }

    Object reason(int what) {
        if (what < 0 || what > 2) {
            throw new IllegalArgumentException();
        }
        if (reason == null) {
            throw new NoSuchElementException();
        }
        return reason[what];
    }

    Object line(int person) {
        Person p = at(person);
        String written = (p.stubborn ? "s" : "o") + (p.tilt == 0 ? "0" : String.format("%+d", p.tilt)) + "#" + p.habit;
        for (int friend : persons(other -> now.weight(person, other) > 0)) {
            written += " " + friend + "*" + now.weight(person, friend);
        }
        line = written;
        return line.length();
    }

    Object beams() {
        List<String> written = new ArrayList<>();
        for (Beam beam : now.beams) {
            written.add(beam.low + "-" + beam.high + "<" + beam.limit + "!".repeat(beam.creaks));
        }
        line = String.join(" ", written);
        return line.length();
    }

    Object character(int index) {
        if (index < 0 || index >= line.length()) {
            throw new IndexOutOfBoundsException();
        }
        return line.charAt(index);
    }

    Object meanTilt() {
        if (now.persons.isEmpty()) {
            throw new ArithmeticException();
        }
        return tiltSum() / (double) now.persons.size();
    }

    private int tiltSum() {
        return now.persons.stream().mapToInt(Person::tilt).sum();
    }

    private int plumbCount() {
        return persons(person -> at(person).tilt == 0).size();
    }

    Object plumbShare() {
        if (now.persons.isEmpty()) {
            throw new ArithmeticException();
        }
        return plumbCount() / (float) now.persons.size();
    }

    Object account(int what) {
        int pairs = (int) now.weights.values().stream().filter(weight -> weight > 0).count();
        return listed(what, now.persons.size(), pairs, now.beams.size(), plumbCount(), now.rounds, now.facts,
                now.creaked, now.broken, tiltSum(), past.size(), buffer.length());
    }

    Object undo() {
        if (past.isEmpty()) {
            throw new IllegalStateException();
        }
        now = past.removeLast();
        return past.size();
    }

    Object save() {
        saved = now;
        return now.persons.size();
    }

    Object restore() {
        if (saved == null) {
            throw new IllegalStateException();
        }
        now = saved;
        past.clear();
        return now.persons.size();
    }
}
