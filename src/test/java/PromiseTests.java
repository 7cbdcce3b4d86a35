/** For each promise of the document ordinary inputs, the edges that it names, and wrong inputs. */
public final class PromiseTests {
    private static final int NONE = LicenceKeeper.NONE;
    private static final int DEVICE = LicenceKeeper.DEVICE;
    private static final int CORE = LicenceKeeper.CORE;
    private static final int[] BEYOND = {Integer.MIN_VALUE, -2, -1, Integer.MAX_VALUE};

    private final Check check = new Check();

    public static void main(String[] args) {
        PromiseTests tests = new PromiseTests();
        tests.promise1NewObject();
        tests.promise2SetCores();
        tests.promise3Move();
        tests.promise3MoveRefused();
        tests.promise4Find();
        tests.promise5SetPrice();
        tests.promise6Release();
        tests.promise6ReleaseByCare();
        tests.promise7Buy();
        tests.promise8Upgrade();
        tests.promise8UpgradeRefused();
        tests.promise9Lend();
        tests.promise10Pass();
        tests.promise11And12TodayAndRights();
        tests.promise13And14CountOfAndVersionOf();
        tests.promise15And16LatestAndHostOf();
        tests.promise17Weight();
        tests.promise18Covers();
        tests.promise19Gap();
        tests.promise19GapOfCores();
        tests.promise19GapWithSeveralRights();
        tests.promise20Uncovered();
        tests.promise21GapByAll();
        tests.promise22GapIf();
        tests.promise23Spare();
        tests.questionsChangeNothing();
        tests.keepersAreApart();
        tests.check.end("PromiseTests");
    }

    /** A keeper with the product 0 found in version 1 on as many machines, with these cores. */
    private static Recorded withCores(int... cores) {
        Recorded keeper = new Recorded();
        for (int machine = 0; machine < cores.length; machine++) {
            keeper.setCores(machine, cores[machine]);
            keeper.find(machine, 0, 1);
        }
        return keeper;
    }

    private void refusesBeyond(String what, String exception, int size, Recorded keeper, OneArgument call) {
        for (int value : BEYOND) {
            check.refuses(what + value, exception, keeper, k -> call.on(k, value));
        }
        check.refuses(what + size, exception, keeper, k -> call.on(k, size));
    }

    /** A call whose other arguments are set. */
    private interface OneArgument {
        int on(LicenceKeeper keeper, int argument);
    }

    private void promise1NewObject() {
        Recorded keeper = new Recorded();
        check.equal("NONE", LicenceKeeper.NONE, -1);
        check.equal("DEVICE", LicenceKeeper.DEVICE, 0);
        check.equal("CORE", LicenceKeeper.CORE, 1);
        check.answers("1: today at first", 0, keeper::today);
        check.answers("1: rights at first", 0, keeper::rights);
        for (int machine = 0; machine < 8; machine++) {
            int m = machine;
            check.answers("1: host at first", NONE, () -> keeper.hostOf(m));
            for (int product = 0; product < 4; product++) {
                int p = product;
                check.answers("1: no product at first", 0, () -> keeper.weight(m, p));
                check.answers("1: version at first", 0, () -> keeper.find(m, p, 1));
                check.answers("1: cores and price at first", 1, () -> keeper.weight(m, p));
            }
        }
        for (int product = 0; product < 4; product++) {
            int p = product;
            check.answers("1: latest at first", 1, () -> keeper.latest(p));
            check.answers("1: gap without rights", 8, () -> keeper.gap(p));
            check.answers("1: uncovered without rights", 255, () -> keeper.uncovered(p));
            check.answers("1: price at first", 1, () -> keeper.setPrice(p, 5));
        }
        check.refuses("1: no right", Check.INDEX, keeper, k -> k.countOf(0));
    }

    private void promise2SetCores() {
        Recorded keeper = new Recorded();
        check.answers("2: first", 1, () -> keeper.setCores(0, 64));
        check.answers("2: then", 64, () -> keeper.setCores(0, 1));
        check.answers("2: least", 1, () -> keeper.setCores(0, 3));
        check.answers("2: last machine", 1, () -> keeper.setCores(7, 5));
        check.answers("2: another", 1, () -> keeper.setCores(6, 6));
        check.answers("2: kept", 5, () -> keeper.setCores(7, 5));
        keeper.find(7, 3, 1);
        check.answers("2: as weight", 5, () -> keeper.weight(7, 3));
        refusesBeyond("2: machine ", Check.INDEX, 8, keeper, (k, m) -> k.setCores(m, 2));
        refusesBeyond("2: cores ", Check.ARGUMENT, 65, keeper, (k, c) -> k.setCores(7, c));
        check.refuses("2: no cores", Check.ARGUMENT, keeper, k -> k.setCores(7, 0));
        check.refuses("2: both wrong", Check.INDEX, keeper, k -> k.setCores(8, 0));
    }

    private void promise3Move() {
        Recorded keeper = new Recorded();
        check.answers("3: to a host", NONE, () -> keeper.move(1, 0));
        check.answers("3: to the same host", 0, () -> keeper.move(1, 0));
        check.answers("3: a second guest", NONE, () -> keeper.move(7, 0));
        check.answers("3: to another host", 0, () -> keeper.move(1, 2));
        check.answers("3: its host", 2, () -> keeper.hostOf(1));
        check.answers("3: the other guest stays", 0, () -> keeper.hostOf(7));
        check.answers("3: a host to none", NONE, () -> keeper.move(2, NONE));
        check.answers("3: a guest to none", 2, () -> keeper.move(1, NONE));
        check.answers("3: none again", NONE, () -> keeper.move(1, NONE));
        check.answers("3: no host any more", NONE, () -> keeper.move(2, 1));
        check.answers("3: to the last machine", 0, () -> keeper.move(7, NONE));
        check.answers("3: the last as a host", 1, () -> keeper.move(2, 7));
    }

    private void promise3MoveRefused() {
        Recorded keeper = new Recorded();
        keeper.find(0, 0, 1);
        keeper.move(1, 0);
        keeper.move(3, 2);
        check.refuses("3: a host to a host", Check.STATE, keeper, k -> k.move(0, 2));
        check.refuses("3: a host to a free machine", Check.STATE, keeper, k -> k.move(0, 4));
        check.refuses("3: a host to its guest", Check.STATE, keeper, k -> k.move(0, 1));
        check.refuses("3: to a guest", Check.STATE, keeper, k -> k.move(4, 1));
        check.refuses("3: a guest to a guest", Check.STATE, keeper, k -> k.move(3, 1));
        check.refuses("3: to itself", Check.ARGUMENT, keeper, k -> k.move(4, 4));
        check.refuses("3: a host to itself", Check.ARGUMENT, keeper, k -> k.move(0, 0));
        check.refuses("3: a guest to itself", Check.ARGUMENT, keeper, k -> k.move(1, 1));
        refusesBeyond("3: machine ", Check.INDEX, 8, keeper, (k, m) -> k.move(m, 5));
        refusesBeyond("3: machine to none ", Check.INDEX, 8, keeper, (k, m) -> k.move(m, NONE));
        for (int host : new int[] {Integer.MIN_VALUE, -2, 8, Integer.MAX_VALUE}) {
            check.refuses("3: host " + host, Check.INDEX, keeper, k -> k.move(4, host));
            check.refuses("3: a host to host " + host, Check.INDEX, keeper, k -> k.move(0, host));
            check.refuses("3: both " + host, Check.INDEX, keeper, k -> k.move(host, host));
        }
        keeper.move(1, NONE);
        keeper.move(0, 7);
        check.refuses("3: the host of the first machine", Check.STATE, keeper, k -> k.move(7, 5));
        check.refuses("3: to the first machine, a guest", Check.STATE, keeper, k -> k.move(5, 0));
        check.refuses("3: both none", Check.INDEX, keeper, k -> k.move(NONE, NONE));
    }

    private void promise4Find() {
        Recorded keeper = new Recorded();
        keeper.release(2);
        keeper.release(2);
        check.answers("4: first", 0, () -> keeper.find(7, 2, 3));
        check.answers("4: an earlier one", 3, () -> keeper.find(7, 2, 1));
        check.answers("4: not any more", 1, () -> keeper.find(7, 2, 0));
        check.answers("4: still not", 0, () -> keeper.find(7, 2, 0));
        check.answers("4: again", 0, () -> keeper.find(7, 2, 2));
        check.answers("4: another product", 0, () -> keeper.find(7, 3, 1));
        check.answers("4: another machine", 0, () -> keeper.find(6, 2, 1));
        check.answers("4: kept", 2, () -> keeper.find(7, 2, 2));
        keeper.release(2);
        check.answers("4: stays when a new one comes", 2, () -> keeper.find(7, 2, 2));
        refusesBeyond("4: machine ", Check.INDEX, 8, keeper, (k, m) -> k.find(m, 2, 1));
        refusesBeyond("4: product ", Check.INDEX, 4, keeper, (k, p) -> k.find(7, p, 1));
        refusesBeyond("4: version ", Check.ARGUMENT, 5, keeper, (k, v) -> k.find(7, 2, v));
        check.refuses("4: later than this product's", Check.ARGUMENT, keeper, k -> k.find(7, 3, 2));
        check.refuses("4: product and version", Check.INDEX, keeper, k -> k.find(7, 4, -1));
        check.refuses("4: machine and version", Check.INDEX, keeper, k -> k.find(8, 2, -1));
        check.answers("4: nothing changed", 2, () -> keeper.find(7, 2, 4));
    }

    private void promise5SetPrice() {
        Recorded keeper = withCores(3);
        check.answers("5: first", 1, () -> keeper.setPrice(0, 1000));
        check.answers("5: as weight", 3000, () -> keeper.weight(0, 0));
        check.answers("5: then", 1000, () -> keeper.setPrice(0, 0));
        check.answers("5: no weight", 0, () -> keeper.weight(0, 0));
        check.answers("5: another product", 1, () -> keeper.setPrice(3, 7));
        check.answers("5: kept", 0, () -> keeper.setPrice(0, 2));
        refusesBeyond("5: product ", Check.INDEX, 4, keeper, (k, p) -> k.setPrice(p, 3));
        refusesBeyond("5: price ", Check.ARGUMENT, 1001, keeper, (k, c) -> k.setPrice(0, c));
        check.refuses("5: both wrong", Check.INDEX, keeper, k -> k.setPrice(4, -1));
        check.answers("5: nothing changed", 2, () -> keeper.setPrice(0, 2));
    }

    private void promise6Release() {
        Recorded keeper = new Recorded();
        keeper.buy(1, DEVICE, 1, 1000);
        keeper.buy(1, CORE, 2, 1000);
        keeper.buy(2, DEVICE, 1, 1000);
        keeper.lend(1, 2);
        check.answers("6: an empty right has it too", 2, () -> keeper.release(1));
        check.answers("6: latest", 2, () -> keeper.latest(1));
        check.answers("6: another product's latest", 1, () -> keeper.latest(2));
        check.answers("6: version", 2, () -> keeper.versionOf(0));
        check.answers("6: the empty one's version", 2, () -> keeper.versionOf(1));
        check.answers("6: another product's right", 1, () -> keeper.versionOf(2));
        for (int version = 3; version <= 9; version++) {
            check.answers("6: on to " + version, 2, () -> keeper.release(1));
        }
        check.answers("6: the last", 9, () -> keeper.latest(1));
        check.refuses("6: beyond the last", Check.STATE, keeper, k -> k.release(1));
        check.answers("6: no rights", 0, () -> keeper.release(3));
        refusesBeyond("6: product ", Check.INDEX, 4, keeper, LicenceKeeper::release);
    }

    private void promise6ReleaseByCare() {
        Recorded keeper = new Recorded();
        keeper.buy(0, DEVICE, 1, 0);
        keeper.buy(0, DEVICE, 1, 1);
        keeper.buy(0, DEVICE, 1, 5);
        check.answers("6: care from today on", 2, () -> keeper.release(0));
        check.answers("6: no care", 1, () -> keeper.versionOf(0));
        check.answers("6: one day of care", 2, () -> keeper.versionOf(1));
        keeper.pass(4);
        check.answers("6: on the last day", 1, () -> keeper.release(0));
        check.answers("6: past its day", 2, () -> keeper.versionOf(1));
        check.answers("6: with care", 3, () -> keeper.versionOf(2));
        keeper.buy(0, DEVICE, 1, 1);
        keeper.pass(1);
        check.answers("6: the day after", 0, () -> keeper.release(0));
        check.answers("6: stays", 3, () -> keeper.versionOf(2));
        check.answers("6: care from the day of buying", 3, () -> keeper.versionOf(3));
        keeper.buy(0, DEVICE, 1, 2);
        keeper.pass(1);
        check.answers("6: bought on a later day", 1, () -> keeper.release(0));
        check.answers("6: only the latest until then", 5, () -> keeper.versionOf(4));
    }

    private void promise7Buy() {
        Recorded keeper = new Recorded();
        keeper.release(3);
        check.answers("7: first", 0, () -> keeper.buy(3, CORE, 500, 1000));
        check.answers("7: second", 1, () -> keeper.buy(0, DEVICE, 1, 0));
        check.answers("7: rights", 2, keeper::rights);
        check.answers("7: count", 500, () -> keeper.countOf(0));
        check.answers("7: version", 2, () -> keeper.versionOf(0));
        check.answers("7: version of another product", 1, () -> keeper.versionOf(1));
        refusesBeyond("7: product ", Check.INDEX, 4, keeper, (k, p) -> k.buy(p, CORE, 1, 1));
        refusesBeyond("7: measure ", Check.ARGUMENT, 2, keeper, (k, m) -> k.buy(0, m, 1, 1));
        refusesBeyond("7: count ", Check.ARGUMENT, 501, keeper, (k, c) -> k.buy(0, CORE, c, 1));
        refusesBeyond("7: care ", Check.ARGUMENT, 1001, keeper, (k, c) -> k.buy(0, CORE, 1, c));
        check.refuses("7: no count", Check.ARGUMENT, keeper, k -> k.buy(0, CORE, 0, 1));
        check.refuses("7: all wrong", Check.INDEX, keeper, k -> k.buy(4, 2, 0, -1));
        for (int right = 2; right < 12; right++) {
            int next = right;
            check.answers("7: number", next, () -> keeper.buy(next % 4, next % 2, next, next));
        }
        check.refuses("7: a thirteenth", Check.STATE, keeper, k -> k.buy(0, CORE, 1, 1));
        check.refuses("7: of no product", Check.INDEX, keeper, k -> k.buy(4, CORE, 1, 1));
        check.refuses("7: of no measure", Check.ARGUMENT, keeper, k -> k.buy(0, 2, 1, 1));
        check.refuses("7: of no count", Check.ARGUMENT, keeper, k -> k.buy(0, CORE, 0, 1));
        check.refuses("7: of too long a care", Check.ARGUMENT, keeper, k -> k.buy(0, CORE, 1, 1001));
    }

    private void promise8Upgrade() {
        Recorded keeper = withCores(6, 1);
        keeper.move(1, 0);
        keeper.buy(0, CORE, 10, 5);
        keeper.buy(0, DEVICE, 3, 0);
        keeper.pass(5);
        keeper.release(0);
        keeper.release(0);
        check.answers("8: a part", 2, () -> keeper.upgrade(0, 6));
        check.answers("8: the rest", 4, () -> keeper.countOf(0));
        check.answers("8: the new one's count", 6, () -> keeper.countOf(2));
        check.answers("8: the new one's version", 3, () -> keeper.versionOf(2));
        check.answers("8: the old one's version", 1, () -> keeper.versionOf(0));
        check.answers("8: nothing of it is lent out", 0, () -> keeper.lend(2, 0));
        keeper.find(0, 0, 3);
        keeper.find(1, 0, 3);
        check.answers("8: the measure CORE", 3, () -> keeper.covers(2, 0));
        check.answers("8: it takes cores", 0, () -> keeper.gap(0));
        check.answers("8: all of it", 3, () -> keeper.upgrade(1, 3));
        check.answers("8: nothing left", 0, () -> keeper.countOf(1));
        check.answers("8: the measure DEVICE", 1, () -> keeper.covers(3, 0));
        check.answers("8: no care either", 0, () -> keeper.release(0));
        Recorded cared = new Recorded();
        cared.buy(0, DEVICE, 4, 5);
        cared.buy(0, DEVICE, 4, 0);
        cared.release(0);
        cared.upgrade(1, 4);
        check.answers("8: the last day of care of its base", 1, () -> cared.release(0));
        check.answers("8: without care", 2, () -> cared.versionOf(2));
        check.answers("8: with care", 3, () -> cared.versionOf(0));
    }

    private void promise8UpgradeRefused() {
        Recorded keeper = new Recorded();
        keeper.buy(0, DEVICE, 500, 0);
        keeper.buy(1, DEVICE, 5, 0);
        keeper.release(0);
        keeper.lend(0, 1);
        check.refuses("8: more than its count", Check.STATE, keeper, k -> k.upgrade(0, 500));
        check.refuses("8: of the latest version", Check.STATE, keeper, k -> k.upgrade(1, 5));
        refusesBeyond("8: right ", Check.INDEX, 2, keeper, (k, r) -> k.upgrade(r, 1));
        refusesBeyond("8: count ", Check.ARGUMENT, 501, keeper, (k, c) -> k.upgrade(0, c));
        check.refuses("8: no count", Check.ARGUMENT, keeper, k -> k.upgrade(0, 0));
        check.refuses("8: no count of the latest", Check.ARGUMENT, keeper, k -> k.upgrade(1, 0));
        check.refuses("8: right and count", Check.INDEX, keeper, k -> k.upgrade(2, 0));
        for (int right = 2; right < 11; right++) {
            keeper.buy(2, DEVICE, 1, 0);
        }
        check.answers("8: the last right", 11, () -> keeper.upgrade(0, 499));
        check.answers("8: lent out from the old one", 1, () -> keeper.lend(0, 0));
        keeper.lend(0, -1);
        check.refuses("8: a thirteenth", Check.STATE, keeper, k -> k.upgrade(0, 1));
        check.refuses("8: a thirteenth, no count", Check.ARGUMENT, keeper, k -> k.upgrade(0, 0));
    }

    private void promise9Lend() {
        Recorded keeper = withCores(1, 1);
        keeper.buy(0, DEVICE, 500, 0);
        keeper.buy(0, DEVICE, 2, 0);
        check.answers("9: a part", 498, () -> keeper.lend(0, 498));
        check.answers("9: the count", 2, () -> keeper.countOf(0));
        check.answers("9: the other right", 2, () -> keeper.countOf(1));
        check.answers("9: more", 500, () -> keeper.lend(0, 2));
        check.answers("9: all of it", 0, () -> keeper.countOf(0));
        check.answers("9: no change", 500, () -> keeper.lend(0, 0));
        check.refuses("9: more than all", Check.STATE, keeper, k -> k.lend(0, 1));
        keeper.lend(1, 1);
        check.answers("9: the gap", 1, () -> keeper.gap(0));
        check.answers("9: back", 499, () -> keeper.lend(0, -1));
        check.answers("9: the gap then", 0, () -> keeper.gap(0));
        check.answers("9: all back", 0, () -> keeper.lend(0, -499));
        check.answers("9: the count then", 500, () -> keeper.countOf(0));
        check.refuses("9: more back than was lent out", Check.STATE, keeper, k -> k.lend(0, -1));
        check.refuses("9: two back for one", Check.STATE, keeper, k -> k.lend(1, -2));
        check.refuses("9: two of one", Check.STATE, keeper, k -> k.lend(1, 2));
        check.answers("9: the most", 500, () -> keeper.lend(0, 500));
        check.answers("9: the most back", 0, () -> keeper.lend(0, -500));
        refusesBeyond("9: right ", Check.INDEX, 2, keeper, (k, r) -> k.lend(r, 0));
        for (int count : new int[] {Integer.MIN_VALUE, -501, 501, Integer.MAX_VALUE}) {
            check.refuses("9: count " + count, Check.ARGUMENT, keeper, k -> k.lend(0, count));
            check.refuses("9: right, count " + count, Check.INDEX, keeper, k -> k.lend(2, count));
        }
    }

    private void promise10Pass() {
        Recorded keeper = new Recorded();
        check.answers("10: one", 1, () -> keeper.pass(1));
        check.answers("10: most", 401, () -> keeper.pass(400));
        check.answers("10: as today", 401, keeper::today);
        check.answers("10: again", 403, () -> keeper.pass(2));
        refusesBeyond("10: days ", Check.ARGUMENT, 401, keeper, LicenceKeeper::pass);
        check.refuses("10: no days", Check.ARGUMENT, keeper, k -> k.pass(0));
    }

    private void promise11And12TodayAndRights() {
        Recorded keeper = new Recorded();
        check.answers("11: first", 0, keeper::today);
        keeper.pass(7);
        check.answers("11: then", 7, keeper::today);
        keeper.buy(1, CORE, 4, 0);
        keeper.buy(2, CORE, 4, 0);
        check.answers("12: of all products", 2, keeper::rights);
        keeper.lend(0, 4);
        check.answers("12: empty ones too", 2, keeper::rights);
        keeper.release(2);
        check.answers("12: not by a release", 2, keeper::rights);
        keeper.upgrade(1, 4);
        check.answers("12: by an upgrade", 3, keeper::rights);
        check.answers("11: only days pass", 7, keeper::today);
    }

    private void promise13And14CountOfAndVersionOf() {
        Recorded keeper = new Recorded();
        refusesBeyond("13: of none ", Check.INDEX, 0, keeper, LicenceKeeper::countOf);
        refusesBeyond("14: of none ", Check.INDEX, 0, keeper, LicenceKeeper::versionOf);
        keeper.buy(1, CORE, 12, 0);
        keeper.buy(1, DEVICE, 5, 9);
        check.answers("13: bought", 12, () -> keeper.countOf(0));
        check.answers("14: bought", 1, () -> keeper.versionOf(0));
        keeper.release(1);
        check.answers("14: without care", 1, () -> keeper.versionOf(0));
        check.answers("14: with care", 2, () -> keeper.versionOf(1));
        keeper.upgrade(0, 5);
        check.answers("13: upgraded in part", 7, () -> keeper.countOf(0));
        keeper.lend(0, 4);
        check.answers("13: lent out in part", 3, () -> keeper.countOf(0));
        keeper.upgrade(0, 3);
        check.answers("13: all gone", 0, () -> keeper.countOf(0));
        keeper.lend(1, 5);
        check.answers("13: all lent out", 0, () -> keeper.countOf(1));
        check.answers("14: of an empty one", 2, () -> keeper.versionOf(1));
        refusesBeyond("13: right ", Check.INDEX, 4, keeper, LicenceKeeper::countOf);
        refusesBeyond("14: right ", Check.INDEX, 4, keeper, LicenceKeeper::versionOf);
    }

    private void promise15And16LatestAndHostOf() {
        Recorded keeper = new Recorded();
        keeper.release(3);
        keeper.release(3);
        check.answers("15: released", 3, () -> keeper.latest(3));
        check.answers("15: not released", 1, () -> keeper.latest(2));
        refusesBeyond("15: product ", Check.INDEX, 4, keeper, LicenceKeeper::latest);
        keeper.move(7, 0);
        keeper.move(6, 0);
        check.answers("16: host 0", 0, () -> keeper.hostOf(7));
        check.answers("16: the host's host", NONE, () -> keeper.hostOf(0));
        keeper.move(7, 5);
        check.answers("16: moved", 5, () -> keeper.hostOf(7));
        check.answers("16: not moved", 0, () -> keeper.hostOf(6));
        keeper.move(7, NONE);
        check.answers("16: moved to none", NONE, () -> keeper.hostOf(7));
        refusesBeyond("16: machine ", Check.INDEX, 8, keeper, LicenceKeeper::hostOf);
    }

    private void promise17Weight() {
        Recorded keeper = new Recorded();
        keeper.setCores(7, 64);
        keeper.setPrice(3, 1000);
        check.answers("17: without the product", 0, () -> keeper.weight(7, 3));
        keeper.find(7, 3, 1);
        check.answers("17: with it", 64000, () -> keeper.weight(7, 3));
        keeper.buy(3, DEVICE, 1, 0);
        check.answers("17: covered or not", 64000, () -> keeper.weight(7, 3));
        keeper.release(3);
        keeper.find(7, 3, 2);
        check.answers("17: in any version", 64000, () -> keeper.weight(7, 3));
        keeper.find(7, 3, 0);
        check.answers("17: not any more", 0, () -> keeper.weight(7, 3));
        refusesBeyond("17: machine ", Check.INDEX, 8, keeper, (k, m) -> k.weight(m, 3));
        refusesBeyond("17: product ", Check.INDEX, 4, keeper, (k, p) -> k.weight(7, p));
    }

    private void promise18Covers() {
        Recorded keeper = withCores(9, 1, 1, 1);
        keeper.move(1, 0);
        keeper.move(2, 0);
        keeper.move(7, 0);
        keeper.move(3, 4);
        keeper.buy(0, DEVICE, 1, 0);
        keeper.buy(0, CORE, 1, 0);
        keeper.buy(1, CORE, 1, 0);
        check.answers("18: DEVICE on a host", 1, () -> keeper.covers(0, 0));
        check.answers("18: DEVICE on a guest", 2, () -> keeper.covers(0, 1));
        check.answers("18: DEVICE on no product", 0, () -> keeper.covers(0, 4));
        check.answers("18: CORE on a host", 7, () -> keeper.covers(1, 0));
        check.answers("18: CORE on a guest", 4, () -> keeper.covers(1, 2));
        check.answers("18: CORE on a host without the product", 8, () -> keeper.covers(1, 4));
        check.answers("18: CORE on a guest without the product", 0, () -> keeper.covers(1, 7));
        check.answers("18: of another product", 0, () -> keeper.covers(2, 0));
        keeper.release(0);
        keeper.find(1, 0, 2);
        check.answers("18: too late a version", 5, () -> keeper.covers(1, 0));
        keeper.buy(0, CORE, 1, 0);
        check.answers("18: an earlier one", 7, () -> keeper.covers(3, 0));
        keeper.lend(3, 1);
        check.answers("18: whatever its count is", 7, () -> keeper.covers(3, 0));
        keeper.find(7, 0, 1);
        check.answers("18: the last machine", 135, () -> keeper.covers(3, 0));
        keeper.move(7, NONE);
        check.answers("18: no guest any more", 7, () -> keeper.covers(3, 0));
        refusesBeyond("18: right ", Check.INDEX, 4, keeper, (k, r) -> k.covers(r, 0));
        refusesBeyond("18: machine ", Check.INDEX, 8, keeper, (k, m) -> k.covers(0, m));
    }

    private void promise19Gap() {
        Recorded keeper = withCores(2, 3, 5);
        keeper.setPrice(0, 10);
        check.answers("19: all", 100, () -> keeper.gap(0));
        keeper.buy(1, DEVICE, 3, 0);
        check.answers("19: rights of another product", 100, () -> keeper.gap(0));
        check.answers("19: of another product", 0, () -> keeper.gap(1));
        keeper.buy(0, DEVICE, 1, 0);
        check.answers("19: the dearest is covered", 50, () -> keeper.gap(0));
        keeper.buy(0, DEVICE, 1, 0);
        check.answers("19: two are", 20, () -> keeper.gap(0));
        keeper.find(0, 0, 0);
        check.answers("19: all that have it", 0, () -> keeper.gap(0));
        keeper.release(0);
        keeper.find(1, 0, 2);
        keeper.find(2, 0, 2);
        check.answers("19: too late a version", 80, () -> keeper.gap(0));
        keeper.upgrade(1, 1);
        check.answers("19: upgraded", 30, () -> keeper.gap(0));
        keeper.setPrice(0, 0);
        check.answers("19: no price", 0, () -> keeper.gap(0));
        refusesBeyond("19: product ", Check.INDEX, 4, keeper, LicenceKeeper::gap);
    }

    private void promise19GapOfCores() {
        Recorded small = withCores(1, 2, 3);
        small.buy(0, CORE, 7, 0);
        check.answers("19: at least 4", 3, () -> small.gap(0));
        small.buy(0, CORE, 3, 0);
        check.answers("19: 3 are not enough for any", 3, () -> small.gap(0));
        Recorded four = withCores(4, 5);
        four.buy(0, CORE, 4, 0);
        check.answers("19: 4 for 4", 5, () -> four.gap(0));
        Recorded knapsack = withCores(6, 5, 5, 4);
        knapsack.buy(0, CORE, 10, 0);
        check.answers("19: not the dearest first", 10, () -> knapsack.gap(0));
        Recorded apart = withCores(8, 8);
        apart.buy(0, CORE, 6, 0);
        apart.buy(0, CORE, 6, 0);
        check.answers("19: two rights are not joined", 16, () -> apart.gap(0));
        Recorded hosted = withCores(5, 20, 30, 12);
        hosted.find(0, 0, 0);
        hosted.move(1, 0);
        hosted.move(2, 0);
        hosted.buy(0, CORE, 5, 0);
        check.answers("19: on a host without the product", 12, () -> hosted.gap(0));
        hosted.buy(0, DEVICE, 1, 0);
        check.answers("19: and a device", 0, () -> hosted.gap(0));
    }

    private void promise19GapWithSeveralRights() {
        Recorded keeper = withCores(4, 4, 4, 4, 4, 4, 4, 4);
        keeper.release(0);
        keeper.find(7, 0, 2);
        for (int right = 0; right < 3; right++) {
            keeper.buy(0, DEVICE, 1, 0);
        }
        keeper.buy(0, CORE, 8, 0);
        check.answers("19: five of eight", 12, () -> keeper.gap(0));
        check.answers("19: the highest are covered", 7, () -> keeper.uncovered(0));
        keeper.lend(3, 8);
        check.answers("19: lent out", 20, () -> keeper.gap(0));
        keeper.lend(3, -4);
        keeper.move(1, 0);
        keeper.move(2, 0);
        keeper.move(3, 0);
        check.answers("19: the guests too", 4, () -> keeper.gap(0));
        check.answers("19: one guest less than all", 16, () -> keeper.uncovered(0));
        Recorded versions = withCores(9, 8, 7);
        versions.buy(0, DEVICE, 1, 0);
        versions.release(0);
        versions.find(0, 0, 2);
        versions.buy(0, DEVICE, 1, 0);
        check.answers("19: the later right on the later version", 7, () -> versions.gap(0));
        check.answers("19: the old right on the rest", 4, () -> versions.uncovered(0));
    }

    private void promise20Uncovered() {
        Recorded keeper = withCores(5, 5, 5);
        check.answers("20: all", 7, () -> keeper.uncovered(0));
        check.answers("20: of a product on no machine", 0, () -> keeper.uncovered(1));
        keeper.buy(0, DEVICE, 1, 0);
        check.answers("20: the least number", 3, () -> keeper.uncovered(0));
        keeper.setCores(0, 6);
        check.answers("20: the least gap before the least number", 6, () -> keeper.uncovered(0));
        keeper.setPrice(0, 0);
        check.answers("20: no price, the least number", 3, () -> keeper.uncovered(0));
        keeper.find(2, 0, 0);
        check.answers("20: never without the product", 1, () -> keeper.uncovered(0));
        keeper.release(0);
        keeper.find(1, 0, 2);
        check.answers("20: too late a version", 2, () -> keeper.uncovered(0));
        Recorded split = withCores(4, 4, 8);
        split.buy(0, CORE, 8, 0);
        check.answers("20: one for two", 3, () -> split.uncovered(0));
        split.setPrice(0, 0);
        split.setCores(2, 9);
        check.answers("20: what can be covered, by number", 4, () -> split.uncovered(0));
        Recorded last = withCores(1, 1, 1, 1, 1, 1, 1, 1);
        last.buy(0, DEVICE, 1, 0);
        check.answers("20: the last machine", 127, () -> last.uncovered(0));
        refusesBeyond("20: product ", Check.INDEX, 4, last, LicenceKeeper::uncovered);
    }

    private void promise21GapByAll() {
        Recorded keeper = withCores(6, 5, 5, 4);
        check.answers("21: no rights", 20, () -> keeper.gapByAll(0));
        keeper.buy(0, CORE, 10, 0);
        check.answers("21: one", 10, () -> keeper.gapByAll(0));
        keeper.buy(0, DEVICE, 1, 0);
        check.answers("21: two", 4, () -> keeper.gapByAll(0));
        keeper.buy(1, DEVICE, 1, 0);
        keeper.find(3, 1, 1);
        check.answers("21: another product's right", 4, () -> keeper.gapByAll(0));
        check.answers("21: of another product", 0, () -> keeper.gapByAll(1));
        keeper.buy(0, DEVICE, 3, 0);
        check.refuses("21: three", Check.STATE, keeper, k -> k.gapByAll(0));
        keeper.lend(3, 3);
        check.answers("21: one of three is empty", 4, () -> keeper.gapByAll(0));
        keeper.lend(3, -1);
        check.refuses("21: three again", Check.STATE, keeper, k -> k.gapByAll(0));
        keeper.lend(0, 10);
        check.answers("21: two of three", 9, () -> keeper.gapByAll(0));
        keeper.move(1, 0);
        keeper.lend(0, -10);
        keeper.lend(1, 1);
        check.answers("21: with guests", 0, () -> keeper.gapByAll(0));
        LicenceKeeper tight = withCores(4, 4, 4, 4, 4, 4, 4, 64).again();
        tight.buy(0, DEVICE, 1, 0);
        check.answers("21: the last machine", 28, () -> tight.gapByAll(0));
        tight.buy(0, CORE, 3, 0);
        check.answers("21: a right that can be laid on nothing", 28, () -> tight.gapByAll(0));
        tight.lend(1, 2);
        tight.buy(0, DEVICE, 1, 0);
        tight.lend(1, 1);
        check.answers("21: and one that can", 24, () -> tight.gapByAll(0));
        refusesBeyond("21: product ", Check.INDEX, 4, keeper, LicenceKeeper::gapByAll);
    }

    private void promise22GapIf() {
        Recorded keeper = withCores(4, 9, 8);
        keeper.buy(0, CORE, 4, 0);
        keeper.move(3, 0);
        check.answers("22: as it is", 17, () -> keeper.gapIf(0, 4, NONE));
        check.answers("22: one moved", 8, () -> keeper.gapIf(0, 1, 0));
        check.answers("22: another moved", 9, () -> keeper.gapIf(0, 2, 0));
        check.answers("22: not together", 17, () -> keeper.gap(0));
        check.answers("22: not moved", NONE, () -> keeper.hostOf(1));
        check.answers("22: another product", 0, () -> keeper.gapIf(1, 1, 0));
        keeper.move(1, 0);
        check.answers("22: where it is", 8, () -> keeper.gapIf(0, 1, 0));
        check.answers("22: to none", 17, () -> keeper.gapIf(0, 1, NONE));
        check.answers("22: to another host, which is cheaper to cover", 12, () -> keeper.gapIf(0, 1, 5));
        check.answers("22: a host to none", 8, () -> keeper.gapIf(0, 0, NONE));
        check.answers("22: another guest to none", 8, () -> keeper.gapIf(0, 3, NONE));
        check.refuses("22: a host to a host", Check.STATE, keeper, k -> k.gapIf(0, 0, 2));
        check.refuses("22: to a guest", Check.STATE, keeper, k -> k.gapIf(0, 2, 1));
        check.refuses("22: to itself", Check.ARGUMENT, keeper, k -> k.gapIf(0, 0, 0));
        check.refuses("22: to itself, no product", Check.INDEX, keeper, k -> k.gapIf(4, 0, 0));
        check.refuses("22: to a guest, no product", Check.INDEX, keeper, k -> k.gapIf(4, 2, 1));
        check.refuses("22: both none", Check.INDEX, keeper, k -> k.gapIf(0, NONE, NONE));
        refusesBeyond("22: product ", Check.INDEX, 4, keeper, (k, p) -> k.gapIf(p, 1, 0));
        refusesBeyond("22: machine ", Check.INDEX, 8, keeper, (k, m) -> k.gapIf(0, m, 0));
        for (int host : new int[] {Integer.MIN_VALUE, -2, 8, Integer.MAX_VALUE}) {
            check.refuses("22: host " + host, Check.INDEX, keeper, k -> k.gapIf(0, 1, host));
            check.refuses("22: a host to " + host, Check.INDEX, keeper, k -> k.gapIf(0, 0, host));
        }
    }

    private void promise23Spare() {
        Recorded keeper = withCores(6, 5, 9);
        keeper.buy(0, CORE, 13, 0);
        check.answers("23: what is over", 2, () -> keeper.spare(0));
        keeper.lend(0, 2);
        check.answers("23: nothing then", 0, () -> keeper.spare(0));
        check.answers("23: the gap stays", 9, () -> keeper.gap(0));
        keeper.buy(0, DEVICE, 2, 0);
        check.answers("23: another one helps", 6, () -> keeper.spare(0));
        check.answers("23: one of that", 1, () -> keeper.spare(1));
        keeper.lend(1, 1);
        check.answers("23: nothing of that then", 0, () -> keeper.spare(1));
        keeper.lend(1, -1);
        keeper.buy(0, DEVICE, 1, 0);
        check.answers("23: all of it", 11, () -> keeper.spare(0));
        check.answers("23: one of two", 2, () -> keeper.spare(1));
        keeper.lend(0, 11);
        check.answers("23: of an empty one", 0, () -> keeper.spare(0));
        keeper.buy(1, CORE, 3, 0);
        check.answers("23: of no use", 3, () -> keeper.spare(3));
        keeper.setPrice(0, 0);
        check.answers("23: the gap, not the set", 2, () -> keeper.spare(1));
        Recorded equal = withCores(8, 4, 4);
        equal.buy(0, CORE, 8, 0);
        equal.move(1, 3);
        equal.move(2, 3);
        check.answers("23: the least of several ways", 4, () -> equal.spare(0));
        equal.setCores(3, 62);
        check.answers("23: no other way", 0, () -> equal.spare(0));
        refusesBeyond("23: right ", Check.INDEX, 1, equal, LicenceKeeper::spare);
    }

    private void questionsChangeNothing() {
        Recorded keeper = withCores(6, 5, 9, 1, 2);
        keeper.move(1, 0);
        keeper.buy(0, CORE, 9, 4);
        keeper.release(0);
        keeper.buy(0, DEVICE, 2, 4);
        LicenceKeeper asked = keeper.again();
        for (int machine = 1; machine < 8; machine++) {
            asked.gapIf(0, machine, machine < 4 ? 0 : 3);
        }
        String before = Snapshot.ofQuestions(asked);
        check.equal("questions answer the same again", Snapshot.ofAll(asked), Snapshot.ofAll(keeper.again()));
        check.equal("and answered so at first", before, Snapshot.ofQuestions(keeper.again()));
    }

    private void keepersAreApart() {
        LicenceKeeper other = new LicenceKeeper();
        Recorded one = withCores(6, 5);
        one.buy(0, CORE, 9, 4);
        one.pass(3);
        one.release(0);
        one.setPrice(1, 4);
        one.move(3, 4);
        one.gap(0);
        check.equal("keepers are apart", Snapshot.ofAll(other), Snapshot.ofAll(new LicenceKeeper()));
    }
}
