import java.util.function.Supplier;

/** Long runs of calls, the same every time, in which the program answers what the model does. */
public final class RandomRunsTest {
    private static final int RUNS = 600;
    private static final int CALLS = 400;

    private final ExtentShelf program = new ExtentShelf();
    private final Model model = new Model();
    private long state;

    private RandomRunsTest(int run) {
        state = 7919L * run + 1;
    }

    public static void main(String[] args) {
        for (int run = 1; run <= RUNS; run++) {
            new RandomRunsTest(run).go(run);
        }
        Check.end();
    }

    private void go(int run) {
        for (int call = 1; call <= CALLS; call++) {
            if (!callBoth("run " + run + ", call " + call + ": ")) {
                return;
            }
            if (call % 10 == 0 && !lookAtBoth("run " + run + ", after call " + call + ": ")) {
                return;
            }
        }
    }

    private int below(int n) {
        state = state * 6364136223846793005L + 1442695040888963407L;
        return (int) ((state >>> 33) % n);
    }

    /** Mostly from .. to, now and then one beside it or far away. */
    private int about(int from, int to) {
        int odd = below(40);
        if (odd == 0) {
            return from - 1 - below(2);
        }
        if (odd == 1) {
            return to + 1 + below(2);
        }
        if (odd == 2 && below(10) == 0) {
            return below(2) == 0 ? Integer.MAX_VALUE : Integer.MIN_VALUE;
        }
        return from + below(to - from + 1);
    }

    /** Mostly a volume that there is. */
    private int someVolume() {
        int v = about(0, 3);
        for (int tries = 0; tries < 6 && !isThere(v); tries++) {
            v = about(0, 3);
        }
        return v;
    }

    private boolean isThere(int v) {
        return !Check.outcome(() -> "" + model.volume(v, 0)).endsWith("Exception");
    }

    /** Mostly a word that the volume has. */
    private int someWord(int v) {
        return isThere(v) && below(8) > 0 ? below(model.volume(v, 3)) : about(0, 19);
    }

    private boolean same(String call, Supplier<String> got, Supplier<String> want) {
        String due = Check.outcome(want);
        String answer = Check.outcome(got);
        Check.same(call, answer, due);
        return answer.equals(due);
    }

    private boolean callBoth(String at) {
        int p = below(100);
        // Without power most calls only throw: what brings it back is called more often.
        if (model.number() < 0 && p < 70) {
            return callWithoutPower(at);
        }
        if (p < 22) {
            int v = someVolume();
            int w = someWord(v);
            int value = below(1000);
            return same(at + "write(" + v + ", " + w + ", " + value + ")",
                    () -> "" + program.write(v, w, value), () -> "" + model.write(v, w, value));
        }
        if (p < 44) {
            return callVolumes(at, below(7));
        }
        if (p < 74) {
            return callMoves(at, below(10));
        }
        if (p < 88) {
            return callDisks(at, below(6));
        }
        return callPower(at, below(12));
    }

    private boolean callWithoutPower(String at) {
        if (below(3) > 0) {
            return same(at + "start()", () -> "" + program.start(), () -> "" + model.start());
        }
        int d = about(0, 3);
        boolean is = below(5) > 1;
        return same(at + "plug(" + d + ", " + is + ")", () -> "" + program.plug(d, is), () -> "" + model.plug(d, is));
    }

    private boolean callVolumes(String at, int which) {
        int v = someVolume();
        int n = about(1, 5);
        switch (which) {
            case 0:
            case 1:
                int kind = below(2) == 0 ? 2 : about(0, 2);
                int columns = below(20) == 0 ? about(0, 4) : kind == 1 ? 2 + below(2) : 1;
                int elements = columns > 1 && below(8) > 0 ? columns : n;
                return same(at + "make(" + kind + ", " + columns + ", " + elements + ")",
                        () -> "" + program.make(kind, columns, elements),
                        () -> "" + model.make(kind, columns, elements));
            case 2:
                int more = about(1, 2);
                return same(at + "grow(" + v + ", " + more + ")",
                        () -> "" + program.grow(v, more), () -> "" + model.grow(v, more));
            case 3:
                return same(at + "shrink(" + v + ", " + n + ")",
                        () -> "" + program.shrink(v, n), () -> "" + model.shrink(v, n));
            case 4:
                if (below(3) == 0) {
                    return same(at + "delete(" + v + ")", () -> {
                        program.delete(v);
                        return "done";
                    }, () -> {
                        model.delete(v);
                        return "done";
                    });
                }
                return true;
            default:
                return same(at + "mend(" + v + ")", () -> "" + program.mend(v), () -> "" + model.mend(v));
        }
    }

    private boolean callMoves(String at, int which) {
        boolean begin = model.moving() < 0 ? which < 6 : which == 0;
        if (begin) {
            int d = about(0, 3);
            return same(at + "empty(" + d + ")", () -> "" + program.empty(d), () -> "" + model.empty(d));
        }
        if (which < 8) {
            return same(at + "step()", () -> "" + program.step(), () -> "" + model.step());
        }
        int v = someVolume();
        int w = someWord(v);
        return same(at + "read(" + v + ", " + w + ")", () -> "" + program.read(v, w), () -> "" + model.read(v, w));
    }

    private boolean callDisks(String at, int which) {
        int d = about(0, 3);
        if (which < 3) {
            int n = about(2, 8);
            return same(at + "add(" + d + ", " + n + ")", () -> {
                program.add(d, n);
                return "done";
            }, () -> {
                model.add(d, n);
                return "done";
            });
        }
        if (which == 3) {
            return same(at + "remove(" + d + ")", () -> {
                program.remove(d);
                return "done";
            }, () -> {
                model.remove(d);
                return "done";
            });
        }
        return same(at + "drop(" + d + ")", () -> "" + program.drop(d), () -> "" + model.drop(d));
    }

    private boolean callPower(String at, int which) {
        if (which < 3) {
            int n = below(4) == 0 ? about(-1, 0) : about(-1, 300);
            return same(at + "cut(" + n + ")", () -> {
                program.cut(n);
                return "done";
            }, () -> {
                model.cut(n);
                return "done";
            });
        }
        if (which < 5) {
            return same(at + "off()", () -> {
                program.off();
                return "done";
            }, () -> {
                model.off();
                return "done";
            });
        }
        if (which == 5) {
            return callWithoutPower(at);
        }
        int d = about(0, 3);
        int s = about(0, 2);
        int i = about(0, 50);
        return same(at + "look(" + d + ", " + s + ", " + i + ")",
                () -> "" + program.look(d, s, i), () -> "" + model.look(d, s, i));
    }

    private boolean lookAtBoth(String at) {
        boolean alike = same(at + "number()", () -> "" + program.number(), () -> "" + model.number());
        alike &= same(at + "moving()", () -> "" + program.moving(), () -> "" + model.moving());
        for (int d = -1; d < 5; d++) {
            int disk = d;
            alike &= same(at + "free(" + d + ")", () -> "" + program.free(disk), () -> "" + model.free(disk));
        }
        for (int v = -1; v < 5; v++) {
            alike &= lookAtVolume(at, v);
        }
        for (int d = 0; d < 4; d++) {
            for (int s = 0; s < 3; s++) {
                alike &= lookAtWords(at, d, s);
            }
        }
        return alike;
    }

    private boolean lookAtVolume(String at, int v) {
        boolean alike = true;
        for (int what = -1; what < 5; what++) {
            int which = what;
            alike &= same(at + "volume(" + v + ", " + what + ")",
                    () -> "" + program.volume(v, which), () -> "" + model.volume(v, which));
        }
        for (int e = -1; e < 6; e++) {
            for (int l = -1; l < 3; l++) {
                int element = e;
                int leg = l;
                alike &= same(at + "where(" + v + ", " + e + ", " + l + ")",
                        () -> "" + program.where(v, element, leg), () -> "" + model.where(v, element, leg));
            }
        }
        return alike;
    }

    private boolean lookAtWords(String at, int d, int s) {
        StringBuilder got = new StringBuilder();
        StringBuilder want = new StringBuilder();
        for (int i = 0; i < (s == 2 ? 32 : 51); i++) {
            got.append(program.look(d, s, i)).append(' ');
            want.append(model.look(d, s, i)).append(' ');
        }
        return same(at + "all words of disk " + d + ", " + s, got::toString, want::toString);
    }
}
