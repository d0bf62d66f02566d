import java.util.ArrayList;
import java.util.List;
import java.util.function.Consumer;

/**
 * A house that counts its calls, as the document promises nothing behind the 512th one, and that keeps those that
 * could leave a trace, so that another house can be brought to where this one is.
 */
final class Called {
    static final int MOST_CALLS = 512;

    private final PlumbOpinions plumb = new PlumbOpinions();
    private final List<Consumer<Called>> steps = new ArrayList<>();
    private int calls;

    private PlumbOpinions counted() {
        calls++;
        if (calls > MOST_CALLS) {
            throw new AssertionError("the test calls one object more than " + MOST_CALLS + " times");
        }
        return plumb;
    }

    int calls() {
        return calls;
    }

    /** Another house behind the same calls, without those that only ask. */
    Called twin() {
        Called twin = new Called();
        for (Consumer<Called> step : steps) {
            Check.told(() -> {
                step.accept(twin);
                return "";
            });
        }
        return twin;
    }

    int person(int tilt, boolean isStubborn) {
        steps.add(again -> again.person(tilt, isStubborn));
        return counted().person(tilt, isStubborn);
    }

    int friends(int one, int other, int weight) {
        steps.add(again -> again.friends(one, other, weight));
        return counted().friends(one, other, weight);
    }

    int round() {
        steps.add(again -> again.round());
        return counted().round();
    }

    int fact(int person, int strength) {
        steps.add(again -> again.fact(person, strength));
        return counted().fact(person, strength);
    }

    int beam(int one, int other, int limit) {
        steps.add(again -> again.beam(one, other, limit));
        return counted().beam(one, other, limit);
    }

    int remove(int beam) {
        steps.add(again -> again.remove(beam));
        return counted().remove(beam);
    }

    int habit(int person, int habit) {
        steps.add(again -> again.habit(person, habit));
        return counted().habit(person, habit);
    }

    int personOf(int person, int what) {
        return counted().personOf(person, what);
    }

    int weight(int one, int other) {
        return counted().weight(one, other);
    }

    int beamOf(int beam, int what) {
        return counted().beamOf(beam, what);
    }

    int lean(int person) {
        return counted().lean(person);
    }

    int mean(int person) {
        return counted().mean(person);
    }

    int meanAgain(int person) {
        return counted().meanAgain(person);
    }

    int wouldMove(int person) {
        return counted().wouldMove(person);
    }

    int puller(int person) {
        return counted().puller(person);
    }

    int force(int person, int strength) {
        return counted().force(person, strength);
    }

    int factsFor(int person, int strength) {
        return counted().factsFor(person, strength);
    }

    int tiltIn(int person, int rounds) {
        return counted().tiltIn(person, rounds);
    }

    int restsIn() {
        return counted().restsIn();
    }

    int breaksIn(int beam) {
        return counted().breaksIn(beam);
    }

    int camp(int person) {
        return counted().camp(person);
    }

    int camps() {
        return counted().camps();
    }

    int campsAgain() {
        return counted().campsAgain();
    }

    int greatest(boolean isLeft) {
        return counted().greatest(isLeft);
    }

    int ranked(int measure, int place) {
        return counted().ranked(measure, place);
    }

    int weakest(int place) {
        return counted().weakest(place);
    }

    boolean isEven() {
        return counted().isEven();
    }

    int append(char character) {
        steps.add(again -> again.append(character));
        return counted().append(character);
    }

    int commands() {
        steps.add(again -> again.commands());
        return counted().commands();
    }

    int faultPosition() {
        return counted().faultPosition();
    }

    int reason(int what) {
        return counted().reason(what);
    }

    int line(int person) {
        steps.add(again -> again.line(person));
        return counted().line(person);
    }

    int beams() {
        steps.add(again -> again.beams());
        return counted().beams();
    }

    char character(int index) {
        return counted().character(index);
    }

    double meanTilt() {
        return counted().meanTilt();
    }

    float plumbShare() {
        return counted().plumbShare();
    }

    int account(int what) {
        return counted().account(what);
    }

    int undo() {
        steps.add(again -> again.undo());
        return counted().undo();
    }

    int save() {
        steps.add(again -> again.save());
        return counted().save();
    }

    int restore() {
        steps.add(again -> again.restore());
        return counted().restore();
    }
}
