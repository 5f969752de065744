import java.util.function.Supplier;

/**
 * A state of an object that can be made again and again. Each call is tried on an object of its own, and each look at
 * what the call left behind on another, so that no object comes near to its 512th call.
 */
final class Scene {
    /** A call on an object. */
    interface On {
        long answer(PassedTraits x);
    }

    private static final On NO_CALL = x -> 0;

    private final String name;
    private final Supplier<PassedTraits> maker;
    private String untouched;

    Scene(String name, Supplier<PassedTraits> maker) {
        this.name = name;
        this.maker = maker;
    }

    PassedTraits make() {
        return maker.get();
    }

    /** The call answers this. */
    void answers(String sentence, long due, On call) {
        String got = outcome(call);
        Due.isTrue(told(sentence) + " answered " + got + ", due is " + due, got.equals(String.valueOf(due)));
    }

    /** The call answers this, and changes nothing. */
    void tells(String sentence, long due, On call) {
        answers(sentence, due, call);
        changesNothing(sentence, call);
    }

    /** The call throws just this, and changes nothing. */
    void refuses(String sentence, Class<? extends RuntimeException> want, On call) {
        String got = outcome(call);
        String due = "throws " + want.getSimpleName();
        Due.isTrue(told(sentence) + " " + got + ", due is " + due, got.equals(due));
        changesNothing(sentence, call);
    }

    /** The call throws nothing. */
    void allows(String sentence, On call) {
        String got = outcome(call);
        Due.isTrue(told(sentence) + " " + got + ", due is an answer", !got.startsWith("throws"));
    }

    void changesNothing(String sentence, On call) {
        if (untouched == null) {
            untouched = reading(NO_CALL);
        }
        Due.isTrue(told(sentence) + " changed something", reading(call).equals(untouched));
    }

    private String told(String sentence) {
        return sentence + " [" + name + "]";
    }

    private String outcome(On call) {
        PassedTraits x = make();
        return Due.outcome(() -> call.answer(x));
    }

    private PassedTraits behind(On call) {
        PassedTraits x = make();
        Due.outcome(() -> call.answer(x));
        return x;
    }

    /** All that can be found out behind a call: the state, the states before it, the histories, the text, the slots. */
    private String reading(On call) {
        StringBuilder told = new StringBuilder();
        String left = "";
        for (int undos = 0; undos <= 16 && !left.startsWith("throws"); undos++) {
            PassedTraits x = behind(call);
            for (int i = 0; i < undos; i++) {
                left = Due.outcome(x::undo);
            }
            told.append(left).append(' ').append(Look.at(x)).append('\n');
        }
        told.append(Look.atHistories(behind(call))).append('\n');
        told.append(Look.atText(behind(call))).append('\n');
        for (int slot = 0; slot <= 1; slot++) {
            told.append(Look.atSlot(behind(call), slot)).append('\n');
        }
        return told.toString();
    }
}
