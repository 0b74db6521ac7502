import java.util.function.Supplier;

/**
 * What an object answers to calls that change nothing, as a text, so that two states can be compared.
 * It is made anew for each part, as an object is good for 512 calls alone.
 */
final class Answers {
    private Answers() {
    }

    static String all(Supplier<KeptWays> made) {
        KeptWays x = made.get();
        StringBuilder out = new StringBuilder();
        out.append("counts");
        for (int what = 0; what < 14; what++) {
            out.append(' ').append(x.count(what));
        }
        for (int r = 0; r < x.count(1); r++) {
            out.append("\nroad ").append(r);
            for (int what = 0; what < 6; what++) {
                out.append(' ').append(x.road(r, what));
            }
        }
        out.append("\ntouched");
        for (int i = 0; i < 13; i++) {
            out.append(' ').append(x.touched(i));
        }
        for (int i = 0; i < x.count(8); i++) {
            out.append("\nevent ").append(i);
            for (int what = 0; what < 4; what++) {
                out.append(' ').append(length(x.event(i, what)));
            }
        }
        out.append("\ndrawn");
        for (int t = 0; t < x.count(0); t++) {
            out.append(' ').append(length(x.drawn(9, t)));
        }
        return out.append('\n').append(figures(made, 0, x.count(1))).toString();
    }

    /** What follows from the open roads, the origin and the watches alone; roads are numbered from the first one on. */
    static String figures(Supplier<KeptWays> made, int first, int roads) {
        return towns(made.get(), first) + roads(made.get(), first, roads) + rounds(made.get()) + shortcuts(made.get());
    }

    private static String towns(KeptWays x, int first) {
        StringBuilder out = new StringBuilder();
        int n = x.count(0);
        out.append("figures ").append(x.count(6)).append(' ').append(x.count(7)).append(' ').append(x.count(11));
        for (int t = 0; t < n; t++) {
            out.append("\ntown ").append(t).append(':');
            for (int what = 0; what < 16; what++) {
                boolean isRoad = what == 1 || what == 6;
                out.append(' ').append(isRoad ? road(x.town(t, what), first) : length(x.town(t, what)));
            }
            out.append("; way");
            for (int i = 0; i < n; i++) {
                out.append(' ').append(road(x.way(t, i), first));
            }
            out.append("; others");
            for (int u = 0; u < n; u++) {
                out.append(' ').append(length(x.between(t, u))).append(' ').append(length(x.through(t, u)));
            }
            for (int i = 0; i < 4; i++) {
                out.append(' ').append(length(x.free(t, i))).append(' ').append(length(x.hops(t, i)));
            }
        }
        return out.toString();
    }

    private static String roads(KeptWays x, int first, int roads) {
        StringBuilder out = new StringBuilder();
        int n = x.count(0);
        for (int r = first; r < first + roads; r++) {
            out.append("\nby road ").append(r - first).append(':');
            for (int what = 0; what < 3; what++) {
                out.append(' ').append(length(x.change(r, what)));
            }
            for (int t = 0; t < n; t++) {
                out.append(' ').append(x.needed(r, t)).append(' ').append(length(x.without(r, t)));
            }
        }
        return out.toString();
    }

    private static String rounds(KeptWays x) {
        StringBuilder out = new StringBuilder();
        out.append("\nmean ").append(length(x.mean(0))).append(' ').append(length(x.mean(1)));
        for (int some = 0; some < 1 << Math.min(x.count(0), 4); some++) {
            out.append("\nmeet and round ").append(some).append(':');
            for (int what = 0; what < 5; what++) {
                out.append(' ').append(length(x.meet(some, what))).append(' ').append(length(x.round(some, what)));
            }
        }
        return out.toString();
    }

    private static String shortcuts(KeptWays x) {
        StringBuilder out = new StringBuilder();
        for (int l = -4; l < 5; l++) {
            out.append("\nshortcut ").append(l);
            for (int what = 0; what < 3; what++) {
                out.append(' ').append(length(x.shortcut(l, what)));
            }
        }
        return out.toString();
    }

    private static String road(long r, int first) {
        return Long.toString(r < 0 ? r : r - first);
    }

    private static String length(long l) {
        return l == KeptWays.NO_LENGTH ? "none" : Long.toString(l);
    }
}
