import java.util.function.Supplier;
import java.util.function.ToIntFunction;

/** Asks a house more than it may be asked: it is made anew whenever it was given as many calls as are promised. */
final class Asked {
    private final Supplier<House> made;
    private House now;

    Asked(Supplier<House> made) {
        this.made = made;
        now = made.get();
    }

    int ask(ToIntFunction<House> call) {
        if (now.callsLeft() == 0) {
            now = made.get();
        }
        return call.applyAsInt(now);
    }
}
