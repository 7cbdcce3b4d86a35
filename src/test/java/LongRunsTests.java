/** Long runs of calls, each answer compared with that of the slow keeper. The runs are the same each time. */
public final class LongRunsTests {
    private static final int CALLS = 512;
    private static final int RUNS = 120;

    private final Check check = new Check();
    private final LicenceKeeper keeper = new LicenceKeeper();
    private final SlowKeeper slow = new SlowKeeper();
    private final int run;
    private long state;

    private LongRunsTests(int run) {
        this.run = run;
        this.state = 7919L * run + 12345;
    }

    public static void main(String[] args) {
        Check all = new Check();
        for (int run = 0; run < RUNS; run++) {
            LongRunsTests tests = new LongRunsTests(run);
            for (int call = 0; call < CALLS; call++) {
                all.equal("run " + run + ", call " + call, tests.nextCallAgrees(), true);
            }
        }
        all.end("LongRunsTests");
    }

    private int below(int bound) {
        state = state * 6364136223846793005L + 1442695040888963407L;
        return (int) ((state >>> 33) % bound);
    }

    /** Mostly least to most, at times a value at or beyond the edges. */
    private int value(int least, int most) {
        switch (below(40)) {
            case 0:
                return least - 1;
            case 1:
                return most + 1;
            case 2:
                return below(2) == 0 ? Integer.MIN_VALUE : Integer.MAX_VALUE;
            case 3:
                return most;
            default:
                return least + below(most - least + 1);
        }
    }

    /** Some runs keep to one product, so that it has many rights. */
    private int product() {
        return run % 3 == 0 && below(20) > 0 ? 2 : value(0, 3);
    }

    private int machine() {
        return value(0, 7);
    }

    private int right() {
        return value(0, Math.max(0, keeper.rights() - 1));
    }

    private int cores() {
        return below(4) == 0 ? value(1, 64) : value(1, 9);
    }

    private int count() {
        return below(12) == 0 ? value(1, 500) : value(1, run % 2 == 0 ? 9 : 24);
    }

    private int host() {
        return below(3) == 0 ? -1 : value(0, 7);
    }

    private boolean agree(String call, Check.Call of, Check.Call due) {
        String got = Check.outcome(of);
        String want = Check.outcome(due);
        check.equal("run " + run + ": " + call, got, want);
        return got.equals(want);
    }

    private boolean nextCallAgrees() {
        int kind = below(100);
        return kind < 48 ? changeAgrees(kind) : kind < 62 ? questionAgrees(kind) : gapQuestionAgrees(kind);
    }

    private boolean changeAgrees(int kind) {
        int m = machine();
        int p = product();
        int r = right();
        if (kind < 7) {
            int c = cores();
            return agree("setCores", () -> keeper.setCores(m, c), () -> slow.setCores(m, c));
        }
        if (kind < 15) {
            int h = host();
            return agree("move", () -> keeper.move(m, h), () -> slow.move(m, h));
        }
        if (kind < 28) {
            int v = p < 0 || p > 3 ? 1 : value(below(5) == 0 ? 0 : 1, keeper.latest(p));
            return agree("find", () -> keeper.find(m, p, v), () -> slow.find(m, p, v));
        }
        if (kind < 31) {
            int c = below(4) == 0 ? value(0, 1000) : value(0, 3);
            return agree("setPrice", () -> keeper.setPrice(p, c), () -> slow.setPrice(p, c));
        }
        if (kind < 33) {
            return agree("release", () -> keeper.release(p), () -> slow.release(p));
        }
        if (kind < 37) {
            int measure = value(0, 1);
            int n = count();
            int care = below(3) == 0 ? value(0, 1000) : value(0, 20);
            return agree("buy", () -> keeper.buy(p, measure, n, care), () -> slow.buy(p, measure, n, care));
        }
        if (kind < 40) {
            int n = count();
            return agree("upgrade", () -> keeper.upgrade(r, n), () -> slow.upgrade(r, n));
        }
        if (kind < 46) {
            int n = below(6) == 0 ? value(-500, 500) : value(-4, 4);
            return agree("lend", () -> keeper.lend(r, n), () -> slow.lend(r, n));
        }
        int days = below(5) == 0 ? value(1, 400) : value(1, 6);
        return agree("pass", () -> keeper.pass(days), () -> slow.pass(days));
    }

    private boolean questionAgrees(int kind) {
        int m = machine();
        int p = product();
        int r = right();
        switch (kind % 8) {
            case 0:
                return agree("today", keeper::today, slow::today);
            case 1:
                return agree("rights", keeper::rights, slow::rights);
            case 2:
                return agree("countOf", () -> keeper.countOf(r), () -> slow.countOf(r));
            case 3:
                return agree("versionOf", () -> keeper.versionOf(r), () -> slow.versionOf(r));
            case 4:
                return agree("latest", () -> keeper.latest(p), () -> slow.latest(p));
            case 5:
                return agree("hostOf", () -> keeper.hostOf(m), () -> slow.hostOf(m));
            case 6:
                return agree("weight", () -> keeper.weight(m, p), () -> slow.weight(m, p));
            default:
                return agree("covers", () -> keeper.covers(r, m), () -> slow.covers(r, m));
        }
    }

    private boolean gapQuestionAgrees(int kind) {
        int m = machine();
        int p = product();
        int r = right();
        int h = host();
        switch (kind % 5) {
            case 0:
                return agree("gap", () -> keeper.gap(p), () -> slow.gap(p));
            case 1:
                return agree("uncovered", () -> keeper.uncovered(p), () -> slow.uncovered(p));
            case 2:
                return agree("gapByAll", () -> keeper.gapByAll(p), () -> slow.gapByAll(p));
            case 3:
                return agree("gapIf", () -> keeper.gapIf(p, m, h), () -> slow.gapIf(p, m, h));
            default:
                return agree("spare", () -> keeper.spare(r), () -> slow.spare(r));
        }
    }
}
