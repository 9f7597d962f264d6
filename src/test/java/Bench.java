import java.util.ArrayList;
import java.util.List;
import java.util.function.Consumer;
import java.util.function.ToIntFunction;

/** An object that is used for no more than the document's 512 calls: then one made alike takes its place. */
final class Bench {
    private static final int CALLS = 512;

    private final List<Consumer<PathTiming>> changes = new ArrayList<>();
    private PathTiming object = new PathTiming();
    private int calls = 0;

    /** For one call that changes nothing. */
    PathTiming x() {
        if (calls >= CALLS) {
            object = new PathTiming();
            calls = changes.size();
            for (Consumer<PathTiming> change : changes) {
                change.accept(object);
            }
        }
        calls++;
        return object;
    }

    void change(Consumer<PathTiming> change) {
        change.accept(x());
        changes.add(change);
    }

    int make(ToIntFunction<PathTiming> change) {
        int answer = change.applyAsInt(x());
        changes.add(object -> change.applyAsInt(object));
        return answer;
    }
}
