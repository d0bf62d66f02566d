import java.util.NoSuchElementException;

/** A plumb line for opinions; ../shared/DOC.md says, promise by promise, what each call answers. */
public final class PlumbOpinions {
    private static final int MOST_ROUNDS_TOLD = 30;
    private static final int MOST_ROUNDS_SOUGHT = 99;

    private final House house;
    private final House draft;
    private final House saved;
    private final People forecast;
    private final Camps camps;
    private final History history;
    private final Text text;
    private final Change change;
    private final Line line;
    private boolean isSaved;
    private int faultPosition;
    private int keptReason;
    private int keptDetail;
    private int keptCommand;

    public PlumbOpinions() {
        house = new House();
        draft = new House();
        saved = new House();
        forecast = new People();
        camps = new Camps();
        history = new History();
        text = new Text();
        change = new Change();
        line = new Line();
        faultPosition = -1;
    }

    public int person(int tilt, boolean isStubborn) throws UnsupportedOperationException {
        change.ask(isStubborn ? Kind.STUBBORN : Kind.OPEN, tilt, 0, 0);
        return carryOutChange();
    }

    public int friends(int one, int other, int weight) throws UnsupportedOperationException {
        change.ask(Kind.FRIENDS, one, other, weight);
        return carryOutChange();
    }

    public int round() throws UnsupportedOperationException {
        change.ask(Kind.ROUND, 0, 0, 0);
        return carryOutChange();
    }

    public int fact(int person, int strength) throws UnsupportedOperationException {
        change.ask(Kind.FACT, person, strength, 0);
        return carryOutChange();
    }

    public int beam(int one, int other, int limit) throws UnsupportedOperationException {
        change.ask(Kind.BEAM, one, other, limit);
        return carryOutChange();
    }

    public int remove(int beam) throws UnsupportedOperationException {
        change.ask(Kind.REMOVE, beam, 0, 0);
        return carryOutChange();
    }

    public int habit(int person, int habit) throws UnsupportedOperationException {
        change.ask(Kind.HABIT, person, habit, 0);
        return carryOutChange();
    }

    public int personOf(int person, int what) throws IndexOutOfBoundsException, IllegalArgumentException {
        needPerson(person);
        People people = house.people;
        switch (what) {
            case 0: return people.tilts[person];
            case 1: return people.habits[person];
            case 2: return people.stubborn[person] ? 1 : 0;
            case 3: return people.stepOf(person);
            case 4: return people.friendCount(person);
            case 5: return people.weightsTogether(person);
            case 6: return people.facts[person];
            case 7: return people.went[person];
            default: throw new IllegalArgumentException("there is no such number of a person");
        }
    }

    public int weight(int one, int other) throws IndexOutOfBoundsException {
        needPerson(one);
        needPerson(other);
        return house.people.weights[one][other];
    }

    public int beamOf(int beam, int what) throws IndexOutOfBoundsException, IllegalArgumentException {
        needBeam(beam);
        Beams beams = house.beams;
        switch (what) {
            case 0: return beams.lows[beam];
            case 1: return beams.highs[beam];
            case 2: return beams.limits[beam];
            case 3: return beams.creaks[beam];
            case 4: return beams.differenceAt(beam, house.people);
            default: throw new IllegalArgumentException("there is no such number of a beam");
        }
    }

    public int lean(int person) throws IndexOutOfBoundsException {
        needPerson(person);
        return house.people.sideOf(person);
    }

    public int mean(int person) throws IndexOutOfBoundsException {
        needPerson(person);
        return house.people.meanByFriends(person);
    }

    public int meanAgain(int person) throws IndexOutOfBoundsException {
        needPerson(person);
        return house.people.meanByAdding(person);
    }

    public int wouldMove(int person) throws IndexOutOfBoundsException {
        needPerson(person);
        return house.people.moveOf(person);
    }

    public int puller(int person) throws IndexOutOfBoundsException, NoSuchElementException {
        needPerson(person);
        int friend = house.people.strongestPuller(person);
        if (friend < 0) {
            throw new NoSuchElementException("no friend pulls the person");
        }
        return friend;
    }

    public int force(int person, int strength) throws IndexOutOfBoundsException, IllegalArgumentException {
        needPerson(person);
        needStrength(strength);
        return house.people.forceOn(person, strength);
    }

    public int factsFor(int person, int strength)
            throws IndexOutOfBoundsException, IllegalArgumentException, NoSuchElementException {
        needPerson(person);
        needStrength(strength);
        int distance = Math.abs(house.people.tilts[person]);
        if (distance == 0) {
            return 0;
        }
        int force = house.people.forceOn(person, strength);
        if (force < 1) {
            throw new NoSuchElementException("such facts have no force");
        }
        return (distance + force - 1) / force;
    }

    public int tiltIn(int person, int rounds) throws IndexOutOfBoundsException, IllegalArgumentException {
        needPerson(person);
        if (rounds < 0 || rounds > MOST_ROUNDS_TOLD) {
            throw new IllegalArgumentException("the rounds are out of range");
        }
        forecast.copyFrom(house.people);
        for (int passed = 0; passed < rounds; passed++) {
            forecast.passRound();
        }
        return forecast.tilts[person];
    }

    public int restsIn() throws NoSuchElementException {
        if (house.people.count == 0) {
            throw new NoSuchElementException("nobody is there");
        }
        forecast.copyFrom(house.people);
        for (int passed = 0; passed <= MOST_ROUNDS_SOUGHT; passed++) {
            if (forecast.passRound() == 0) {
                return passed;
            }
        }
        throw new NoSuchElementException("it does not rest so soon");
    }

    public int breaksIn(int beam) throws IndexOutOfBoundsException, NoSuchElementException {
        needBeam(beam);
        Beams beams = house.beams;
        int creaks = beams.creaks[beam];
        forecast.copyFrom(house.people);
        for (int round = 1; round <= MOST_ROUNDS_SOUGHT; round++) {
            forecast.passRound();
            if (beams.isOverstrained(beam, forecast)) {
                creaks++;
            }
            if (creaks >= Beams.BREAKING_CREAK) {
                return round;
            }
        }
        throw new NoSuchElementException("the beam does not break so soon");
    }

    public int camp(int person) throws IndexOutOfBoundsException {
        needPerson(person);
        return camps.campOf(person, house.people);
    }

    public int camps() {
        return camps.countByLowest(house.people);
    }

    public int campsAgain() {
        return camps.countByJoining(house.people);
    }

    public int greatest(boolean isLeft) throws NoSuchElementException {
        int person = house.people.farthestTo(isLeft ? -1 : 1);
        if (person < 0) {
            throw new NoSuchElementException("nobody leans there");
        }
        return person;
    }

    public int ranked(int measure, int place) throws IllegalArgumentException, NoSuchElementException {
        if (measure < 0 || measure > People.LAST_MEASURE) {
            throw new IllegalArgumentException("there is no such measure");
        }
        int person = house.people.atPlace(measure, place);
        if (person < 0) {
            throw new NoSuchElementException("there is no such place");
        }
        return person;
    }

    public int weakest(int place) throws NoSuchElementException {
        int beam = house.beams.atPlace(place, house.people);
        if (beam < 0) {
            throw new NoSuchElementException("there is no such place");
        }
        return beam;
    }

    public boolean isEven() {
        return house.people.areWeightsMutual() && house.people.areNumbersInRange();
    }

    public int append(char character) throws IllegalStateException {
        if (text.isFull()) {
            throw new IllegalStateException("the text buffer is full");
        }
        return text.add(character);
    }

    public int commands() throws IllegalArgumentException, UnsupportedOperationException {
        faultPosition = text.readAll();
        text.clear();
        if (faultPosition >= 0) {
            throw new IllegalArgumentException("the text has a fault");
        }
        draft.copyFrom(house);
        for (int command = 0; command < text.changeCount; command++) {
            Change asked = text.changes[command];
            draft.carryOut(asked);
            if (asked.isRefused()) {
                keepReason(asked, command);
                throw new UnsupportedOperationException("a command is refused");
            }
        }
        acceptDraft();
        return text.changeCount;
    }

    public int faultPosition() {
        return faultPosition;
    }

    public int reason(int what) throws IllegalArgumentException, NoSuchElementException {
        if (what < 0 || what > 2) {
            throw new IllegalArgumentException("there is no such number of a reason");
        }
        if (keptReason == 0) {
            throw new NoSuchElementException("nothing was refused");
        }
        if (what == 0) {
            return keptReason;
        }
        return what == 1 ? keptDetail : keptCommand;
    }

    public int line(int person) throws IndexOutOfBoundsException {
        needPerson(person);
        return line.writePerson(person, house.people);
    }

    public int beams() {
        return line.writeBeams(house.beams);
    }

    public char character(int index) throws IndexOutOfBoundsException {
        if (index < 0 || index >= line.length) {
            throw new IndexOutOfBoundsException("there is no such index");
        }
        return line.signs[index];
    }

    public double meanTilt() throws ArithmeticException {
        int count = house.people.count;
        if (count == 0) {
            throw new ArithmeticException("nobody is there");
        }
        return (double) house.people.tiltSum() / (double) count;
    }

    public float plumbShare() throws ArithmeticException {
        int count = house.people.count;
        if (count == 0) {
            throw new ArithmeticException("nobody is there");
        }
        return (float) house.people.plumbCount() / (float) count;
    }

    public int account(int what) throws IllegalArgumentException {
        switch (what) {
            case 0: return house.people.count;
            case 1: return house.people.pairCount();
            case 2: return house.beams.count;
            case 3: return house.people.plumbCount();
            case 4: return house.rounds;
            case 5: return house.people.factSum();
            case 6: return house.creaked;
            case 7: return house.broken;
            case 8: return house.people.tiltSum();
            case 9: return history.count;
            case 10: return text.length;
            default: throw new IllegalArgumentException("there is no such account");
        }
    }

    public int undo() throws IllegalStateException {
        if (history.count == 0) {
            throw new IllegalStateException("nothing can be undone");
        }
        history.giveBack(house);
        return history.count;
    }

    public int save() {
        saved.copyFrom(house);
        isSaved = true;
        return house.people.count;
    }

    public int restore() throws IllegalStateException {
        if (!isSaved) {
            throw new IllegalStateException("there is no snapshot");
        }
        house.copyFrom(saved);
        history.forget();
        return house.people.count;
    }

    private void needPerson(int person) {
        if (!house.people.holds(person)) {
            throw new IndexOutOfBoundsException("there is no such person");
        }
    }

    private void needBeam(int beam) {
        if (!house.beams.holds(beam)) {
            throw new IndexOutOfBoundsException("there is no such beam");
        }
    }

    private void needStrength(int strength) {
        if (!People.isStrength(strength)) {
            throw new IllegalArgumentException("the strength is out of range");
        }
    }

    /** Works on the draft first, so that what is refused leaves no trace in the house. */
    private int carryOutChange() {
        draft.copyFrom(house);
        draft.carryOut(change);
        if (change.isRefused()) {
            keepReason(change, 0);
            throw new UnsupportedOperationException("it is refused");
        }
        acceptDraft();
        return change.answer;
    }

    private void acceptDraft() {
        history.keep(house);
        house.copyFrom(draft);
    }

    private void keepReason(Change refused, int command) {
        keptReason = refused.reason;
        keptDetail = refused.detail;
        keptCommand = command;
    }

    /**
     * What can change a house, each with how a text tells it: "+" stands for a sign, "0" for one digit,
     * "9" for one or two digits, and each other character for itself.
     */
    private enum Kind {
        OPEN("o+9"),
        STUBBORN("s+9"),
        FRIENDS("f00*0"),
        ROUND("r"),
        FACT("p0*0"),
        BEAM("b00<9"),
        REMOVE("x0"),
        HABIT("h0=0");

        private static final Kind[] ALL = values();

        private final String pattern;

        Kind(String pattern) {
            this.pattern = pattern;
        }
    }

    /** One change: what is asked, and behind it the answer, or why it is refused. */
    private static final class Change {
        private static final int OUT_OF_RANGE = 1;
        private static final int FULL = 2;
        private static final int NO_PERSON = 3;
        private static final int SAME_PERSON = 4;
        private static final int SO_ALREADY = 5;
        private static final int PLUMB = 6;
        private static final int NO_FORCE = 7;
        private static final int NO_BEAM = 8;
        private static final int HAVE_BEAM = 9;
        private static final int NOBODY = 10;

        private Kind kind = Kind.ROUND;
        private int first;
        private int second;
        private int third;
        private int answer;
        private int reason;
        private int detail;

        void ask(Kind kind, int first, int second, int third) {
            this.kind = kind;
            this.first = first;
            this.second = second;
            this.third = third;
            answer = 0;
            reason = 0;
            detail = 0;
        }

        void refuse(int reason, int detail) {
            this.reason = reason;
            this.detail = detail;
        }

        boolean isRefused() {
            return reason != 0;
        }
    }

    /** The persons with their tilts, habits and friends. Its methods take only persons that it holds. */
    private static final class People {
        private static final int MOST = 6;
        private static final int MOST_TILT = 20;
        private static final int MOST_HABIT = 9;
        private static final int MOST_WEIGHT = 9;
        private static final int MOST_STRENGTH = 9;
        private static final int LAST_MEASURE = 3;
        private static final int WIDE_MOVE = 3;

        private final int[] tilts = new int[MOST];
        private final int[] habits = new int[MOST];
        private final boolean[] stubborn = new boolean[MOST];
        private final int[] facts = new int[MOST];
        private final int[] went = new int[MOST];
        private final int[][] weights = new int[MOST][MOST];
        private final int[] moves = new int[MOST];
        private int count;

        static boolean isTilt(int tilt) {
            return tilt >= -MOST_TILT && tilt <= MOST_TILT;
        }

        static boolean isHabit(int habit) {
            return habit >= 0 && habit <= MOST_HABIT;
        }

        static boolean isWeight(int weight) {
            return weight >= 0 && weight <= MOST_WEIGHT;
        }

        static boolean isStrength(int strength) {
            return strength >= 1 && strength <= MOST_STRENGTH;
        }

        void copyFrom(People other) {
            for (int person = 0; person < MOST; person++) {
                tilts[person] = other.tilts[person];
                habits[person] = other.habits[person];
                stubborn[person] = other.stubborn[person];
                facts[person] = other.facts[person];
                went[person] = other.went[person];
                System.arraycopy(other.weights[person], 0, weights[person], 0, MOST);
            }
            count = other.count;
        }

        boolean holds(int person) {
            return person >= 0 && person < count;
        }

        boolean isFull() {
            return count >= MOST;
        }

        /** Only if it is not full; the rest of the new person's rows is 0, as nobody ever leaves. */
        int admit(int tilt, boolean isStubborn) {
            int person = count;
            tilts[person] = tilt;
            stubborn[person] = isStubborn;
            count++;
            return person;
        }

        int setWeight(int one, int other, int weight) {
            int before = weights[one][other];
            weights[one][other] = weight;
            weights[other][one] = weight;
            return before;
        }

        int setHabit(int person, int habit) {
            int before = habits[person];
            habits[person] = habit;
            return before;
        }

        int sideOf(int person) {
            return Integer.compare(tilts[person], 0);
        }

        int stepOf(int person) {
            int step = 10 - habits[person];
            return stubborn[person] ? step / 2 : step;
        }

        int friendCount(int person) {
            int friends = 0;
            for (int friend = 0; friend < count; friend++) {
                if (weights[person][friend] != 0) {
                    friends++;
                }
            }
            return friends;
        }

        int weightsTogether(int person) {
            int sum = 0;
            for (int friend = 0; friend < count; friend++) {
                sum += weights[person][friend];
            }
            return sum;
        }

        int difference(int one, int other) {
            return Math.abs(tilts[one] - tilts[other]);
        }

        int meanByFriends(int person) {
            int parts = habits[person] + 1;
            int sum = tilts[person] * parts;
            for (int friend = 0; friend < count; friend++) {
                int weight = weights[person][friend];
                sum += tilts[friend] * weight;
                parts += weight;
            }
            return parts < 1 ? 0 : sum / parts;
        }

        int meanByAdding(int person) {
            int parts = 0;
            int sum = 0;
            for (int other = 0; other < count; other++) {
                int times = other == person ? habits[person] + 1 : weights[person][other];
                for (int time = 0; time < times; time++) {
                    sum += tilts[other];
                    parts++;
                }
            }
            return parts < 1 ? 0 : sum / parts;
        }

        int moveOf(int person) {
            int step = stepOf(person);
            int way = meanByFriends(person) - tilts[person];
            return Math.max(-step, Math.min(step, way));
        }

        /** Lets all tilts and habits go on, and tells how many tilts moved. */
        int passRound() {
            // All moves are told ahead of the first one, as all tilts go at once.
            for (int person = 0; person < count; person++) {
                moves[person] = moveOf(person);
            }
            int moved = 0;
            for (int person = 0; person < count; person++) {
                int distance = Math.abs(moves[person]);
                tilts[person] += moves[person];
                went[person] += distance;
                habits[person] = habitBehind(habits[person], distance);
                if (distance != 0) {
                    moved++;
                }
            }
            return moved;
        }

        private static int habitBehind(int habit, int distance) {
            if (distance == 0) {
                return Math.min(habit + 1, MOST_HABIT);
            }
            return distance >= WIDE_MOVE ? Math.max(habit - 1, 0) : habit;
        }

        int forceOn(int person, int strength) {
            return Math.max(strength - habits[person] / 3, 0);
        }

        int tell(int person, int strength) {
            int left = Math.max(Math.abs(tilts[person]) - forceOn(person, strength), 0);
            tilts[person] = sideOf(person) * left;
            facts[person]++;
            return tilts[person];
        }

        /** The friend who pulls the most, or -1 if none pulls. */
        int strongestPuller(int person) {
            int strongest = -1;
            int most = 0;
            for (int friend = 0; friend < count; friend++) {
                int pull = weights[person][friend] * difference(person, friend);
                if (pull > most) {
                    most = pull;
                    strongest = friend;
                }
            }
            return strongest;
        }

        /** The person who leans the most to a side, -1 or 1; or -1 if nobody leans there. */
        int farthestTo(int side) {
            int farthest = -1;
            int most = 0;
            for (int person = 0; person < count; person++) {
                int distance = tilts[person] * side;
                if (distance > most) {
                    most = distance;
                    farthest = person;
                }
            }
            return farthest;
        }

        /** The person at a place of the order by a measure, or -1 if there is no such place. */
        int atPlace(int measure, int place) {
            for (int person = 0; person < count; person++) {
                int ahead = 0;
                for (int other = 0; other < count; other++) {
                    if (isAhead(measure, other, person)) {
                        ahead++;
                    }
                }
                if (ahead == place) {
                    return person;
                }
            }
            return -1;
        }

        private boolean isAhead(int measure, int one, int other) {
            int oneMeasured = measured(measure, one);
            int otherMeasured = measured(measure, other);
            return oneMeasured > otherMeasured || oneMeasured == otherMeasured && one < other;
        }

        private int measured(int measure, int person) {
            switch (measure) {
                case 0: return tilts[person];
                case 1: return Math.abs(tilts[person]);
                case 2: return habits[person];
                default: return weightsTogether(person);
            }
        }

        boolean areWeightsMutual() {
            for (int one = 0; one < count; one++) {
                for (int other = 0; other < count; other++) {
                    if (weights[one][other] != weights[other][one]) {
                        return false;
                    }
                }
            }
            return true;
        }

        boolean areNumbersInRange() {
            for (int person = 0; person < count; person++) {
                if (!isTilt(tilts[person]) || !isHabit(habits[person])) {
                    return false;
                }
            }
            return true;
        }

        int pairCount() {
            int friends = 0;
            for (int person = 0; person < count; person++) {
                friends += friendCount(person);
            }
            return friends / 2;
        }

        int plumbCount() {
            int plumb = 0;
            for (int person = 0; person < count; person++) {
                if (tilts[person] == 0) {
                    plumb++;
                }
            }
            return plumb;
        }

        int tiltSum() {
            int sum = 0;
            for (int person = 0; person < count; person++) {
                sum += tilts[person];
            }
            return sum;
        }

        int factSum() {
            int sum = 0;
            for (int person = 0; person < count; person++) {
                sum += facts[person];
            }
            return sum;
        }
    }

    /** The beams in the order of their numbers. Its methods take only beams that it holds. */
    private static final class Beams {
        private static final int MOST = 6;
        private static final int MOST_LIMIT = 40;
        private static final int BREAKING_CREAK = 3;

        private final int[] lows = new int[MOST];
        private final int[] highs = new int[MOST];
        private final int[] limits = new int[MOST];
        private final int[] creaks = new int[MOST];
        private int count;

        static boolean isLimit(int limit) {
            return limit >= 0 && limit <= MOST_LIMIT;
        }

        void copyFrom(Beams other) {
            System.arraycopy(other.lows, 0, lows, 0, MOST);
            System.arraycopy(other.highs, 0, highs, 0, MOST);
            System.arraycopy(other.limits, 0, limits, 0, MOST);
            System.arraycopy(other.creaks, 0, creaks, 0, MOST);
            count = other.count;
        }

        boolean holds(int beam) {
            return beam >= 0 && beam < count;
        }

        boolean isFull() {
            return count >= MOST;
        }

        /** The beam between two persons, or -1 if they have none. */
        int between(int one, int other) {
            int low = Math.min(one, other);
            int high = Math.max(one, other);
            for (int beam = 0; beam < count; beam++) {
                if (lows[beam] == low && highs[beam] == high) {
                    return beam;
                }
            }
            return -1;
        }

        /** Only if it is not full. */
        int put(int one, int other, int limit) {
            int beam = count;
            lows[beam] = Math.min(one, other);
            highs[beam] = Math.max(one, other);
            limits[beam] = limit;
            creaks[beam] = 0;
            count++;
            return beam;
        }

        void takeAway(int beam) {
            for (int later = beam + 1; later < count; later++) {
                lows[later - 1] = lows[later];
                highs[later - 1] = highs[later];
                limits[later - 1] = limits[later];
                creaks[later - 1] = creaks[later];
            }
            count--;
        }

        int differenceAt(int beam, People people) {
            return people.difference(lows[beam], highs[beam]);
        }

        boolean isOverstrained(int beam, People people) {
            return differenceAt(beam, people) > limits[beam];
        }

        /** Lets each overstrained beam creak once, and tells how many did. */
        int creakAll(People people) {
            int creaked = 0;
            for (int beam = 0; beam < count; beam++) {
                if (isOverstrained(beam, people)) {
                    creaks[beam]++;
                    creaked++;
                }
            }
            return creaked;
        }

        /** Takes away each beam that creaked too often, and tells how many there were. */
        int breakAll() {
            int broken = 0;
            // From the last one, as a beam that goes changes only the later numbers.
            for (int beam = count - 1; beam >= 0; beam--) {
                if (creaks[beam] >= BREAKING_CREAK) {
                    takeAway(beam);
                    broken++;
                }
            }
            return broken;
        }

        /** The beam at a place of the order from the weakest on, or -1 if there is no such place. */
        int atPlace(int place, People people) {
            for (int beam = 0; beam < count; beam++) {
                int ahead = 0;
                for (int other = 0; other < count; other++) {
                    if (isWeaker(other, beam, people)) {
                        ahead++;
                    }
                }
                if (ahead == place) {
                    return beam;
                }
            }
            return -1;
        }

        private boolean isWeaker(int one, int other, People people) {
            int oneSpare = limits[one] - differenceAt(one, people);
            int otherSpare = limits[other] - differenceAt(other, people);
            if (oneSpare != otherSpare) {
                return oneSpare < otherSpare;
            }
            if (creaks[one] != creaks[other]) {
                return creaks[one] > creaks[other];
            }
            return one < other;
        }
    }

    /** All that can be undone: persons, beams, and what is counted over the rounds. */
    private static final class House {
        private final People people = new People();
        private final Beams beams = new Beams();
        private int rounds;
        private int creaked;
        private int broken;

        void copyFrom(House other) {
            people.copyFrom(other.people);
            beams.copyFrom(other.beams);
            rounds = other.rounds;
            creaked = other.creaked;
            broken = other.broken;
        }

        /** Answers or refuses the change; a refused one leaves the house as it is. */
        void carryOut(Change change) {
            switch (change.kind) {
                case OPEN: admit(change, false); break;
                case STUBBORN: admit(change, true); break;
                case FRIENDS: befriend(change); break;
                case ROUND: passRound(change); break;
                case FACT: tell(change); break;
                case BEAM: putBeam(change); break;
                case REMOVE: takeBeam(change); break;
                case HABIT: setHabit(change); break;
                default: break;
            }
        }

        private void admit(Change change, boolean isStubborn) {
            int tilt = change.first;
            if (!People.isTilt(tilt)) {
                change.refuse(Change.OUT_OF_RANGE, 0);
            } else if (people.isFull()) {
                change.refuse(Change.FULL, People.MOST);
            } else {
                change.answer = people.admit(tilt, isStubborn);
            }
        }

        private void befriend(Change change) {
            int one = change.first;
            int other = change.second;
            int weight = change.third;
            if (!people.holds(one) || !people.holds(other)) {
                change.refuse(Change.NO_PERSON, people.count);
            } else if (one == other) {
                change.refuse(Change.SAME_PERSON, one);
            } else if (!People.isWeight(weight)) {
                change.refuse(Change.OUT_OF_RANGE, 0);
            } else if (people.weights[one][other] == weight) {
                change.refuse(Change.SO_ALREADY, weight);
            } else {
                change.answer = people.setWeight(one, other, weight);
            }
        }

        private void passRound(Change change) {
            if (people.count == 0) {
                change.refuse(Change.NOBODY, rounds);
                return;
            }
            change.answer = people.passRound();
            creaked += beams.creakAll(people);
            broken += beams.breakAll();
            rounds++;
        }

        private void tell(Change change) {
            int person = change.first;
            int strength = change.second;
            if (!people.holds(person)) {
                change.refuse(Change.NO_PERSON, people.count);
            } else if (!People.isStrength(strength)) {
                change.refuse(Change.OUT_OF_RANGE, 0);
            } else if (people.tilts[person] == 0) {
                change.refuse(Change.PLUMB, people.habits[person]);
            } else if (people.forceOn(person, strength) == 0) {
                change.refuse(Change.NO_FORCE, strength);
            } else {
                change.answer = people.tell(person, strength);
            }
        }

        private void putBeam(Change change) {
            int one = change.first;
            int other = change.second;
            int limit = change.third;
            if (!people.holds(one) || !people.holds(other)) {
                change.refuse(Change.NO_PERSON, people.count);
            } else if (one == other) {
                change.refuse(Change.SAME_PERSON, one);
            } else if (!Beams.isLimit(limit)) {
                change.refuse(Change.OUT_OF_RANGE, 0);
            } else if (beams.between(one, other) >= 0) {
                change.refuse(Change.HAVE_BEAM, beams.between(one, other));
            } else if (beams.isFull()) {
                change.refuse(Change.FULL, Beams.MOST);
            } else {
                change.answer = beams.put(one, other, limit);
            }
        }

        private void takeBeam(Change change) {
            int beam = change.first;
            if (!beams.holds(beam)) {
                change.refuse(Change.NO_BEAM, beams.count);
                return;
            }
            beams.takeAway(beam);
            change.answer = beams.count;
        }

        private void setHabit(Change change) {
            int person = change.first;
            int habit = change.second;
            if (!people.holds(person)) {
                change.refuse(Change.NO_PERSON, people.count);
            } else if (!People.isHabit(habit)) {
                change.refuse(Change.OUT_OF_RANGE, 0);
            } else if (people.habits[person] == habit) {
                change.refuse(Change.SO_ALREADY, habit);
            } else {
                change.answer = people.setHabit(person, habit);
            }
        }
    }

    /** Tells camps of persons, in ways that share nothing but who is allied with whom. */
    private static final class Camps {
        private final int[] signs = new int[People.MOST];

        private static boolean areAllied(int one, int other, People people) {
            return people.weights[one][other] != 0 && people.sideOf(one) != 0
                    && people.sideOf(one) == people.sideOf(other);
        }

        int campOf(int person, People people) {
            if (people.sideOf(person) == 0) {
                return 0;
            }
            int camp = 1 << person;
            // The farthest member is one step less away than there are persons.
            for (int step = 1; step < people.count; step++) {
                camp |= alliesOf(camp, people);
            }
            return camp;
        }

        private int alliesOf(int camp, People people) {
            int allies = 0;
            for (int member = 0; member < people.count; member++) {
                for (int other = 0; other < people.count; other++) {
                    if ((camp >> member & 1) != 0 && areAllied(member, other, people)) {
                        allies |= 1 << other;
                    }
                }
            }
            return allies;
        }

        int countByLowest(People people) {
            int found = 0;
            for (int person = 0; person < people.count; person++) {
                int camp = campOf(person, people);
                int lowerPersons = (1 << person) - 1;
                if (camp != 0 && (camp & lowerPersons) == 0) {
                    found++;
                }
            }
            return found;
        }

        int countByJoining(People people) {
            int found = people.count - people.plumbCount();
            for (int person = 0; person < people.count; person++) {
                signs[person] = person;
            }
            for (int one = 0; one < people.count; one++) {
                for (int other = one + 1; other < people.count; other++) {
                    if (areAllied(one, other, people) && signs[one] != signs[other]) {
                        joinSigns(signs[one], signs[other], people.count);
                        found--;
                    }
                }
            }
            return found;
        }

        private void joinSigns(int kept, int replaced, int count) {
            for (int person = 0; person < count; person++) {
                if (signs[person] == replaced) {
                    signs[person] = kept;
                }
            }
        }
    }

    /** The text buffer, and the changes that its commands ask for. */
    private static final class Text {
        private static final int MOST = 60;
        // A command has one character at least, and a ";" ahead of the next one.
        private static final int MOST_CHANGES = 30;
        private static final int MOST_NUMBERS = 3;

        private final char[] characters = new char[MOST];
        private final Change[] changes = new Change[MOST_CHANGES];
        private final int[] numbers = new int[MOST_NUMBERS];
        private int length;
        private int changeCount;
        private int numberCount;
        private int position;
        private boolean isNegative;

        Text() {
            for (int change = 0; change < MOST_CHANGES; change++) {
                changes[change] = new Change();
            }
        }

        boolean isFull() {
            return length >= MOST;
        }

        /** Only if it is not full. */
        int add(char character) {
            characters[length] = character;
            length++;
            return length;
        }

        /** Empties the buffer; the changes that were read stay. */
        void clear() {
            length = 0;
        }

        /** Reads the changes out of the buffer, and tells the fault position, or -1 if there is no fault. */
        int readAll() {
            position = 0;
            changeCount = 0;
            for (int command = 0; command < MOST_CHANGES; command++) {
                if (!readCommand()) {
                    return position;
                }
                if (position >= length) {
                    return -1;
                }
                if (!readExactly(';')) {
                    return position;
                }
            }
            return position;
        }

        private boolean readCommand() {
            for (int kind = 0; kind < Kind.ALL.length; kind++) {
                if (isNext(Kind.ALL[kind].pattern.charAt(0))) {
                    return readAs(Kind.ALL[kind]);
                }
            }
            return false;
        }

        private boolean readAs(Kind kind) {
            numberCount = 0;
            isNegative = false;
            for (int part = 0; part < kind.pattern.length(); part++) {
                if (!readPart(kind.pattern.charAt(part))) {
                    return false;
                }
            }
            changes[changeCount].ask(kind, numbers[0], numbers[1], numbers[2]);
            changeCount++;
            return true;
        }

        private boolean readPart(char part) {
            if (part == '+') {
                isNegative = isNext('-');
                return readExactly(isNegative ? '-' : '+');
            }
            if (part == '0') {
                return readNumber(1);
            }
            return part == '9' ? readNumber(2) : readExactly(part);
        }

        private boolean readNumber(int mostDigits) {
            if (!isDigitNext()) {
                return false;
            }
            int number = 0;
            for (int digit = 0; digit < mostDigits && isDigitNext(); digit++) {
                number = number * 10 + characters[position] - '0';
                position++;
            }
            if (numberCount < MOST_NUMBERS) {
                numbers[numberCount] = isNegative ? -number : number;
                numberCount++;
            }
            return true;
        }

        private boolean readExactly(char wanted) {
            if (!isNext(wanted)) {
                return false;
            }
            position++;
            return true;
        }

        private boolean isNext(char wanted) {
            return position < length && characters[position] == wanted;
        }

        private boolean isDigitNext() {
            return position < length && characters[position] >= '0' && characters[position] <= '9';
        }
    }

    /** The line that was written last. */
    private static final class Line {
        // Six beams, each as in "0-3<40!!", take 53 characters with their blanks; a person takes less.
        private static final int MOST = 64;

        private final char[] signs = new char[MOST];
        private int length;

        int writePerson(int person, People people) {
            length = 0;
            put(people.stubborn[person] ? 's' : 'o');
            int side = people.sideOf(person);
            if (side != 0) {
                put(side > 0 ? '+' : '-');
            }
            putNumber(Math.abs(people.tilts[person]));
            put('#');
            putNumber(people.habits[person]);
            for (int friend = 0; friend < people.count; friend++) {
                if (people.weights[person][friend] != 0) {
                    put(' ');
                    putNumber(friend);
                    put('*');
                    putNumber(people.weights[person][friend]);
                }
            }
            return length;
        }

        int writeBeams(Beams beams) {
            length = 0;
            for (int beam = 0; beam < beams.count; beam++) {
                if (beam > 0) {
                    put(' ');
                }
                putNumber(beams.lows[beam]);
                put('-');
                putNumber(beams.highs[beam]);
                put('<');
                putNumber(beams.limits[beam]);
                for (int creak = 0; creak < beams.creaks[beam]; creak++) {
                    put('!');
                }
            }
            return length;
        }

        private void put(char sign) {
            if (length < MOST) {
                signs[length] = sign;
                length++;
            }
        }

        /** A number from 0 to 99. */
        private void putNumber(int number) {
            if (number > 9) {
                put((char) ('0' + number / 10));
            }
            put((char) ('0' + number % 10));
        }
    }

    /** What there was before each of the latest changes. */
    private static final class History {
        private static final int MOST = 8;

        private final House[] houses = new House[MOST];
        private int next;
        private int count;

        History() {
            for (int place = 0; place < MOST; place++) {
                houses[place] = new House();
            }
        }

        /** Keeps a copy, in place of the oldest one if there are as many as there can be. */
        void keep(House house) {
            houses[next].copyFrom(house);
            next = (next + 1) % MOST;
            count = Math.min(count + 1, MOST);
        }

        /** Only if there is one. */
        void giveBack(House house) {
            next = (next + MOST - 1) % MOST;
            house.copyFrom(houses[next]);
            count--;
        }

        void forget() {
            count = 0;
        }
    }
}
