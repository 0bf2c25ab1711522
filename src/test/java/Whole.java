import java.util.List;
import java.util.function.Consumer;
import java.util.function.ToIntFunction;

/**
 * All that can be told of where some calls lead to: the state, the text, the latest stop, and what undo(), restore()
 * and perform() bring from there. An object is used for at most 512 calls, so each part is told by one of its own.
 */
final class Whole {
    private static final List<ToIntFunction<HookHours>> NEXT = List.of(x -> 0, x -> undone(x, 1), x -> undone(x, 2),
        x -> undone(x, 3), x -> undone(x, 4), x -> undone(x, 5), HookHours::restore, HookHours::perform);

    private Whole() {
    }

    static String of(Consumer<HookHours> calls) {
        StringBuilder all = new StringBuilder();
        for (int next = 0; next < NEXT.size(); next++) {
            slots(after(calls, next, all), all);
            others(after(calls, next, all), all);
        }
        return all.toString();
    }

    /** The same without the latest stop, which a refused perform() changes. */
    static String withoutStop(Consumer<HookHours> calls) {
        return of(calls).replaceAll("(?m)^stopped .*$", "");
    }

    private static HookHours after(Consumer<HookHours> calls, int next, StringBuilder all) {
        HookHours x = new HookHours();
        calls.accept(x);
        all.append("then ").append(next).append(": ").append(NEXT.get(next).applyAsInt(x)).append('\n');
        return x;
    }

    private static int undone(HookHours x, int times) {
        int answer = 0;
        for (int i = 0; i < times; i++) {
            answer = x.undo();
        }
        return answer;
    }

    private static void slots(HookHours x, StringBuilder all) {
        for (int crane = 0; crane < 3; crane++) {
            for (int hour = 0; hour < 16; hour++) {
                all.append("slot ").append(crane).append(' ').append(hour).append(':');
                for (int what = 0; what <= 6; what++) {
                    all.append(' ').append(x.slot(crane, hour, what));
                }
                all.append('\n');
            }
        }
    }

    private static void others(HookHours x, StringBuilder all) {
        for (int firm = 0; firm < 6; firm++) {
            all.append("firm ").append(firm).append(':');
            for (int what = 0; what <= 6; what++) {
                all.append(' ').append(x.firm(firm, what));
            }
            all.append('\n');
        }
        for (int hour = 0; hour < 16; hour++) {
            all.append("wind ").append(hour).append(": ").append(x.wind(hour)).append('\n');
            for (int crane = 0; crane < 3; crane++) {
                all.append("heaviest ").append(crane).append(": ").append(x.heaviest(crane, hour)).append('\n');
            }
        }
        for (int what = 0; what <= 15; what++) {
            all.append("count ").append(what).append(": ").append(x.count(what)).append('\n');
        }
        for (int crane = 0; crane < 3; crane++) {
            all.append("cheapest ").append(crane).append(": ").append(x.cheapest(crane, 1)).append('\n');
        }
        all.append("stopped ").append(x.stopped(0)).append(' ').append(x.stopped(1)).append('\n');
    }
}
