/** For each promise of the document ordinary inputs, with answers found by hand; its edges have tests of their own. */
public final class PromiseTests {
    private static final int NONE = LicenceKeeper.NONE;
    private static final int DEVICE = LicenceKeeper.DEVICE;
    private static final int CORE = LicenceKeeper.CORE;

    private final Check check = new Check();

    public static void main(String[] args) {
        PromiseTests tests = new PromiseTests();
        tests.promise2SetCores();
        tests.promise3Move();
        tests.promise4Find();
        tests.promise5SetPrice();
        tests.promise6Release();
        tests.promise6ReleaseByCare();
        tests.promise7Buy();
        tests.promise8Upgrade();
        tests.promise9Lend();
        tests.promise10Pass();
        tests.promise11And12TodayAndRights();
        tests.promise13And14CountOfAndVersionOf();
        tests.promise15And16LatestAndHostOf();
        tests.promise17Weight();
        tests.promise18Covers();
        tests.promise19Gap();
        tests.promise19GapOfCores();
        tests.promise19GapWithSeveralRights();
        tests.promise20Uncovered();
        tests.promise21GapByAll();
        tests.promise22GapIf();
        tests.promise23Spare();
        tests.check.end("PromiseTests");
    }

    private void promise2SetCores() {
        Recorded keeper = new Recorded();
        check.answers("2: first", 1, () -> keeper.setCores(0, 64));
        check.answers("2: then", 64, () -> keeper.setCores(0, 1));
        check.answers("2: least", 1, () -> keeper.setCores(0, 3));
        check.answers("2: last machine", 1, () -> keeper.setCores(7, 5));
        check.answers("2: another", 1, () -> keeper.setCores(6, 6));
        check.answers("2: kept", 5, () -> keeper.setCores(7, 5));
        keeper.find(7, 3, 1);
        check.answers("2: as weight", 5, () -> keeper.weight(7, 3));
    }

    private void promise3Move() {
        Recorded keeper = new Recorded();
        check.answers("3: to a host", NONE, () -> keeper.move(1, 0));
        check.answers("3: to the same host", 0, () -> keeper.move(1, 0));
        check.answers("3: a second guest", NONE, () -> keeper.move(7, 0));
        check.answers("3: to another host", 0, () -> keeper.move(1, 2));
        check.answers("3: its host", 2, () -> keeper.hostOf(1));
        check.answers("3: the other guest stays", 0, () -> keeper.hostOf(7));
        check.answers("3: a host to none", NONE, () -> keeper.move(2, NONE));
        check.answers("3: a guest to none", 2, () -> keeper.move(1, NONE));
        check.answers("3: none again", NONE, () -> keeper.move(1, NONE));
        check.answers("3: no host any more", NONE, () -> keeper.move(2, 1));
        check.answers("3: to the last machine", 0, () -> keeper.move(7, NONE));
        check.answers("3: the last as a host", 1, () -> keeper.move(2, 7));
    }

    private void promise4Find() {
        Recorded keeper = new Recorded();
        keeper.release(2);
        keeper.release(2);
        check.answers("4: first", 0, () -> keeper.find(7, 2, 3));
        check.answers("4: an earlier one", 3, () -> keeper.find(7, 2, 1));
        check.answers("4: not any more", 1, () -> keeper.find(7, 2, 0));
        check.answers("4: still not", 0, () -> keeper.find(7, 2, 0));
        check.answers("4: again", 0, () -> keeper.find(7, 2, 2));
        check.answers("4: another product", 0, () -> keeper.find(7, 3, 1));
        check.answers("4: another machine", 0, () -> keeper.find(6, 2, 1));
        check.answers("4: kept", 2, () -> keeper.find(7, 2, 2));
        keeper.release(2);
        check.answers("4: stays when a new one comes", 2, () -> keeper.find(7, 2, 2));
    }

    private void promise5SetPrice() {
        Recorded keeper = Recorded.withCores(3);
        check.answers("5: first", 1, () -> keeper.setPrice(0, 1000));
        check.answers("5: as weight", 3000, () -> keeper.weight(0, 0));
        check.answers("5: then", 1000, () -> keeper.setPrice(0, 0));
        check.answers("5: no weight", 0, () -> keeper.weight(0, 0));
        check.answers("5: another product", 1, () -> keeper.setPrice(3, 7));
        check.answers("5: kept", 0, () -> keeper.setPrice(0, 2));
    }

    private void promise6Release() {
        Recorded keeper = new Recorded();
        keeper.buy(1, DEVICE, 1, 1000);
        keeper.buy(1, CORE, 2, 1000);
        keeper.buy(2, DEVICE, 1, 1000);
        keeper.lend(1, 2);
        check.answers("6: an empty right has it too", 2, () -> keeper.release(1));
        check.answers("6: latest", 2, () -> keeper.latest(1));
        check.answers("6: another product's latest", 1, () -> keeper.latest(2));
        check.answers("6: version", 2, () -> keeper.versionOf(0));
        check.answers("6: the empty one's version", 2, () -> keeper.versionOf(1));
        check.answers("6: another product's right", 1, () -> keeper.versionOf(2));
        for (int version = 3; version <= 9; version++) {
            check.answers("6: on to " + version, 2, () -> keeper.release(1));
        }
        check.answers("6: the last", 9, () -> keeper.latest(1));
        check.answers("6: no rights", 0, () -> keeper.release(3));
    }

    private void promise6ReleaseByCare() {
        Recorded keeper = new Recorded();
        keeper.buy(0, DEVICE, 1, 0);
        keeper.buy(0, DEVICE, 1, 1);
        keeper.buy(0, DEVICE, 1, 5);
        check.answers("6: care from today on", 2, () -> keeper.release(0));
        check.answers("6: no care", 1, () -> keeper.versionOf(0));
        check.answers("6: one day of care", 2, () -> keeper.versionOf(1));
        keeper.pass(4);
        check.answers("6: on the last day", 1, () -> keeper.release(0));
        check.answers("6: past its day", 2, () -> keeper.versionOf(1));
        check.answers("6: with care", 3, () -> keeper.versionOf(2));
        keeper.buy(0, DEVICE, 1, 1);
        keeper.pass(1);
        check.answers("6: the day after", 0, () -> keeper.release(0));
        check.answers("6: stays", 3, () -> keeper.versionOf(2));
        check.answers("6: care from the day of buying", 3, () -> keeper.versionOf(3));
        keeper.buy(0, DEVICE, 1, 2);
        keeper.pass(1);
        check.answers("6: bought on a later day", 1, () -> keeper.release(0));
        check.answers("6: only the latest until then", 5, () -> keeper.versionOf(4));
    }

    private void promise7Buy() {
        Recorded keeper = new Recorded();
        keeper.release(3);
        check.answers("7: first", 0, () -> keeper.buy(3, CORE, 500, 1000));
        check.answers("7: second", 1, () -> keeper.buy(0, DEVICE, 1, 0));
        check.answers("7: rights", 2, keeper::rights);
        check.answers("7: count", 500, () -> keeper.countOf(0));
        check.answers("7: version", 2, () -> keeper.versionOf(0));
        check.answers("7: version of another product", 1, () -> keeper.versionOf(1));
        for (int right = 2; right < 12; right++) {
            int next = right;
            check.answers("7: number", next, () -> keeper.buy(next % 4, next % 2, next, next));
        }
    }

    private void promise8Upgrade() {
        Recorded keeper = Recorded.withCores(6, 1);
        keeper.move(1, 0);
        keeper.buy(0, CORE, 10, 5);
        keeper.buy(0, DEVICE, 3, 0);
        keeper.pass(5);
        keeper.release(0);
        keeper.release(0);
        check.answers("8: a part", 2, () -> keeper.upgrade(0, 6));
        check.answers("8: the rest", 4, () -> keeper.countOf(0));
        check.answers("8: the new one's count", 6, () -> keeper.countOf(2));
        check.answers("8: the new one's version", 3, () -> keeper.versionOf(2));
        check.answers("8: the old one's version", 1, () -> keeper.versionOf(0));
        check.answers("8: nothing of it is lent out", 0, () -> keeper.lend(2, 0));
        keeper.find(0, 0, 3);
        keeper.find(1, 0, 3);
        check.answers("8: the measure CORE", 3, () -> keeper.covers(2, 0));
        check.answers("8: it takes cores", 0, () -> keeper.gap(0));
        check.answers("8: all of it", 3, () -> keeper.upgrade(1, 3));
        check.answers("8: nothing left", 0, () -> keeper.countOf(1));
        check.answers("8: the measure DEVICE", 1, () -> keeper.covers(3, 0));
        check.answers("8: no care either", 0, () -> keeper.release(0));
        Recorded cared = new Recorded();
        cared.buy(0, DEVICE, 4, 5);
        cared.buy(0, DEVICE, 4, 0);
        cared.release(0);
        cared.upgrade(1, 4);
        check.answers("8: the last day of care of its base", 1, () -> cared.release(0));
        check.answers("8: without care", 2, () -> cared.versionOf(2));
        check.answers("8: with care", 3, () -> cared.versionOf(0));
    }

    private void promise9Lend() {
        Recorded keeper = Recorded.withCores(1, 1);
        keeper.buy(0, DEVICE, 500, 0);
        keeper.buy(0, DEVICE, 2, 0);
        check.answers("9: a part", 498, () -> keeper.lend(0, 498));
        check.answers("9: the count", 2, () -> keeper.countOf(0));
        check.answers("9: the other right", 2, () -> keeper.countOf(1));
        check.answers("9: more", 500, () -> keeper.lend(0, 2));
        check.answers("9: all of it", 0, () -> keeper.countOf(0));
        check.answers("9: no change", 500, () -> keeper.lend(0, 0));
        keeper.lend(1, 1);
        check.answers("9: the gap", 1, () -> keeper.gap(0));
        check.answers("9: back", 499, () -> keeper.lend(0, -1));
        check.answers("9: the gap then", 0, () -> keeper.gap(0));
        check.answers("9: all back", 0, () -> keeper.lend(0, -499));
        check.answers("9: the count then", 500, () -> keeper.countOf(0));
        check.answers("9: the most", 500, () -> keeper.lend(0, 500));
        check.answers("9: the most back", 0, () -> keeper.lend(0, -500));
    }

    private void promise10Pass() {
        Recorded keeper = new Recorded();
        check.answers("10: one", 1, () -> keeper.pass(1));
        check.answers("10: most", 401, () -> keeper.pass(400));
        check.answers("10: as today", 401, keeper::today);
        check.answers("10: again", 403, () -> keeper.pass(2));
    }

    private void promise11And12TodayAndRights() {
        Recorded keeper = new Recorded();
        check.answers("11: first", 0, keeper::today);
        keeper.pass(7);
        check.answers("11: then", 7, keeper::today);
        keeper.buy(1, CORE, 4, 0);
        keeper.buy(2, CORE, 4, 0);
        check.answers("12: of all products", 2, keeper::rights);
        keeper.lend(0, 4);
        check.answers("12: empty ones too", 2, keeper::rights);
        keeper.release(2);
        check.answers("12: not by a release", 2, keeper::rights);
        keeper.upgrade(1, 4);
        check.answers("12: by an upgrade", 3, keeper::rights);
        check.answers("11: only days pass", 7, keeper::today);
    }

    private void promise13And14CountOfAndVersionOf() {
        Recorded keeper = new Recorded();
        keeper.buy(1, CORE, 12, 0);
        keeper.buy(1, DEVICE, 5, 9);
        check.answers("13: bought", 12, () -> keeper.countOf(0));
        check.answers("14: bought", 1, () -> keeper.versionOf(0));
        keeper.release(1);
        check.answers("14: without care", 1, () -> keeper.versionOf(0));
        check.answers("14: with care", 2, () -> keeper.versionOf(1));
        keeper.upgrade(0, 5);
        check.answers("13: upgraded in part", 7, () -> keeper.countOf(0));
        keeper.lend(0, 4);
        check.answers("13: lent out in part", 3, () -> keeper.countOf(0));
        keeper.upgrade(0, 3);
        check.answers("13: all gone", 0, () -> keeper.countOf(0));
        keeper.lend(1, 5);
        check.answers("13: all lent out", 0, () -> keeper.countOf(1));
        check.answers("14: of an empty one", 2, () -> keeper.versionOf(1));
    }

    private void promise15And16LatestAndHostOf() {
        Recorded keeper = new Recorded();
        keeper.release(3);
        keeper.release(3);
        check.answers("15: released", 3, () -> keeper.latest(3));
        check.answers("15: not released", 1, () -> keeper.latest(2));
        keeper.move(7, 0);
        keeper.move(6, 0);
        check.answers("16: host 0", 0, () -> keeper.hostOf(7));
        check.answers("16: the host's host", NONE, () -> keeper.hostOf(0));
        keeper.move(7, 5);
        check.answers("16: moved", 5, () -> keeper.hostOf(7));
        check.answers("16: not moved", 0, () -> keeper.hostOf(6));
        keeper.move(7, NONE);
        check.answers("16: moved to none", NONE, () -> keeper.hostOf(7));
    }

    private void promise17Weight() {
        Recorded keeper = new Recorded();
        keeper.setCores(7, 64);
        keeper.setPrice(3, 1000);
        check.answers("17: without the product", 0, () -> keeper.weight(7, 3));
        keeper.find(7, 3, 1);
        check.answers("17: with it", 64000, () -> keeper.weight(7, 3));
        keeper.buy(3, DEVICE, 1, 0);
        check.answers("17: covered or not", 64000, () -> keeper.weight(7, 3));
        keeper.release(3);
        keeper.find(7, 3, 2);
        check.answers("17: in any version", 64000, () -> keeper.weight(7, 3));
        keeper.find(7, 3, 0);
        check.answers("17: not any more", 0, () -> keeper.weight(7, 3));
    }

    private void promise18Covers() {
        Recorded keeper = Recorded.withCores(9, 1, 1, 1);
        keeper.move(1, 0);
        keeper.move(2, 0);
        keeper.move(7, 0);
        keeper.move(3, 4);
        keeper.buy(0, DEVICE, 1, 0);
        keeper.buy(0, CORE, 1, 0);
        keeper.buy(1, CORE, 1, 0);
        check.answers("18: DEVICE on a host", 1, () -> keeper.covers(0, 0));
        check.answers("18: DEVICE on a guest", 2, () -> keeper.covers(0, 1));
        check.answers("18: DEVICE on no product", 0, () -> keeper.covers(0, 4));
        check.answers("18: CORE on a host", 7, () -> keeper.covers(1, 0));
        check.answers("18: CORE on a guest", 4, () -> keeper.covers(1, 2));
        check.answers("18: CORE on a host without the product", 8, () -> keeper.covers(1, 4));
        check.answers("18: CORE on a guest without the product", 0, () -> keeper.covers(1, 7));
        check.answers("18: of another product", 0, () -> keeper.covers(2, 0));
        keeper.release(0);
        keeper.find(1, 0, 2);
        check.answers("18: too late a version", 5, () -> keeper.covers(1, 0));
        keeper.buy(0, CORE, 1, 0);
        check.answers("18: an earlier one", 7, () -> keeper.covers(3, 0));
        keeper.lend(3, 1);
        check.answers("18: whatever its count is", 7, () -> keeper.covers(3, 0));
        keeper.find(7, 0, 1);
        check.answers("18: the last machine", 135, () -> keeper.covers(3, 0));
        keeper.move(7, NONE);
        check.answers("18: no guest any more", 7, () -> keeper.covers(3, 0));
    }

    private void promise19Gap() {
        Recorded keeper = Recorded.withCores(2, 3, 5);
        keeper.setPrice(0, 10);
        check.answers("19: all", 100, () -> keeper.gap(0));
        keeper.buy(1, DEVICE, 3, 0);
        check.answers("19: rights of another product", 100, () -> keeper.gap(0));
        check.answers("19: of another product", 0, () -> keeper.gap(1));
        keeper.buy(0, DEVICE, 1, 0);
        check.answers("19: the dearest is covered", 50, () -> keeper.gap(0));
        keeper.buy(0, DEVICE, 1, 0);
        check.answers("19: two are", 20, () -> keeper.gap(0));
        keeper.find(0, 0, 0);
        check.answers("19: all that have it", 0, () -> keeper.gap(0));
        keeper.release(0);
        keeper.find(1, 0, 2);
        keeper.find(2, 0, 2);
        check.answers("19: too late a version", 80, () -> keeper.gap(0));
        keeper.upgrade(1, 1);
        check.answers("19: upgraded", 30, () -> keeper.gap(0));
        keeper.setPrice(0, 0);
        check.answers("19: no price", 0, () -> keeper.gap(0));
    }

    private void promise19GapOfCores() {
        Recorded small = Recorded.withCores(1, 2, 3);
        small.buy(0, CORE, 7, 0);
        check.answers("19: at least 4", 3, () -> small.gap(0));
        small.buy(0, CORE, 3, 0);
        check.answers("19: 3 are not enough for any", 3, () -> small.gap(0));
        Recorded four = Recorded.withCores(4, 5);
        four.buy(0, CORE, 4, 0);
        check.answers("19: 4 for 4", 5, () -> four.gap(0));
        Recorded knapsack = Recorded.withCores(6, 5, 5, 4);
        knapsack.buy(0, CORE, 10, 0);
        check.answers("19: not the dearest first", 10, () -> knapsack.gap(0));
        Recorded apart = Recorded.withCores(8, 8);
        apart.buy(0, CORE, 6, 0);
        apart.buy(0, CORE, 6, 0);
        check.answers("19: two rights are not joined", 16, () -> apart.gap(0));
        Recorded hosted = Recorded.withCores(5, 20, 30, 12);
        hosted.find(0, 0, 0);
        hosted.move(1, 0);
        hosted.move(2, 0);
        hosted.buy(0, CORE, 5, 0);
        check.answers("19: on a host without the product", 12, () -> hosted.gap(0));
        hosted.buy(0, DEVICE, 1, 0);
        check.answers("19: and a device", 0, () -> hosted.gap(0));
    }

    private void promise19GapWithSeveralRights() {
        Recorded keeper = Recorded.withCores(4, 4, 4, 4, 4, 4, 4, 4);
        keeper.release(0);
        keeper.find(7, 0, 2);
        for (int right = 0; right < 3; right++) {
            keeper.buy(0, DEVICE, 1, 0);
        }
        keeper.buy(0, CORE, 8, 0);
        check.answers("19: five of eight", 12, () -> keeper.gap(0));
        check.answers("19: the highest are covered", 7, () -> keeper.uncovered(0));
        keeper.lend(3, 8);
        check.answers("19: lent out", 20, () -> keeper.gap(0));
        keeper.lend(3, -4);
        keeper.move(1, 0);
        keeper.move(2, 0);
        keeper.move(3, 0);
        check.answers("19: the guests too", 4, () -> keeper.gap(0));
        check.answers("19: one guest less than all", 16, () -> keeper.uncovered(0));
        Recorded versions = Recorded.withCores(9, 8, 7);
        versions.buy(0, DEVICE, 1, 0);
        versions.release(0);
        versions.find(0, 0, 2);
        versions.buy(0, DEVICE, 1, 0);
        check.answers("19: the later right on the later version", 7, () -> versions.gap(0));
        check.answers("19: the old right on the rest", 4, () -> versions.uncovered(0));
    }

    private void promise20Uncovered() {
        Recorded keeper = Recorded.withCores(5, 5, 5);
        check.answers("20: all", 7, () -> keeper.uncovered(0));
        check.answers("20: of a product on no machine", 0, () -> keeper.uncovered(1));
        keeper.buy(0, DEVICE, 1, 0);
        check.answers("20: the least number", 3, () -> keeper.uncovered(0));
        keeper.setCores(0, 6);
        check.answers("20: the least gap before the least number", 6, () -> keeper.uncovered(0));
        keeper.setPrice(0, 0);
        check.answers("20: no price, the least number", 3, () -> keeper.uncovered(0));
        keeper.find(2, 0, 0);
        check.answers("20: never without the product", 1, () -> keeper.uncovered(0));
        keeper.release(0);
        keeper.find(1, 0, 2);
        check.answers("20: too late a version", 2, () -> keeper.uncovered(0));
        Recorded split = Recorded.withCores(4, 4, 8);
        split.buy(0, CORE, 8, 0);
        check.answers("20: one for two", 3, () -> split.uncovered(0));
        split.setPrice(0, 0);
        split.setCores(2, 9);
        check.answers("20: what can be covered, by number", 4, () -> split.uncovered(0));
        Recorded last = Recorded.withCores(1, 1, 1, 1, 1, 1, 1, 1);
        last.buy(0, DEVICE, 1, 0);
        check.answers("20: the last machine", 127, () -> last.uncovered(0));
    }

    private void promise21GapByAll() {
        Recorded keeper = Recorded.withCores(6, 5, 5, 4);
        check.answers("21: no rights", 20, () -> keeper.gapByAll(0));
        keeper.buy(0, CORE, 10, 0);
        check.answers("21: one", 10, () -> keeper.gapByAll(0));
        keeper.buy(0, DEVICE, 1, 0);
        check.answers("21: two", 4, () -> keeper.gapByAll(0));
        keeper.buy(1, DEVICE, 1, 0);
        keeper.find(3, 1, 1);
        check.answers("21: another product's right", 4, () -> keeper.gapByAll(0));
        check.answers("21: of another product", 0, () -> keeper.gapByAll(1));
        keeper.buy(0, DEVICE, 3, 0);
        keeper.lend(3, 3);
        check.answers("21: one of three is empty", 4, () -> keeper.gapByAll(0));
        keeper.lend(3, -1);
        keeper.lend(0, 10);
        check.answers("21: two of three", 9, () -> keeper.gapByAll(0));
        keeper.move(1, 0);
        keeper.lend(0, -10);
        keeper.lend(1, 1);
        check.answers("21: with guests", 0, () -> keeper.gapByAll(0));
        LicenceKeeper tight = Recorded.withCores(4, 4, 4, 4, 4, 4, 4, 64).again();
        tight.buy(0, DEVICE, 1, 0);
        check.answers("21: the last machine", 28, () -> tight.gapByAll(0));
        tight.buy(0, CORE, 3, 0);
        check.answers("21: a right that can be laid on nothing", 28, () -> tight.gapByAll(0));
        tight.lend(1, 2);
        tight.buy(0, DEVICE, 1, 0);
        tight.lend(1, 1);
        check.answers("21: and one that can", 24, () -> tight.gapByAll(0));
    }

    private void promise22GapIf() {
        Recorded keeper = Recorded.withCores(4, 9, 8);
        keeper.buy(0, CORE, 4, 0);
        keeper.move(3, 0);
        check.answers("22: as it is", 17, () -> keeper.gapIf(0, 4, NONE));
        check.answers("22: one moved", 8, () -> keeper.gapIf(0, 1, 0));
        check.answers("22: another moved", 9, () -> keeper.gapIf(0, 2, 0));
        check.answers("22: not together", 17, () -> keeper.gap(0));
        check.answers("22: not moved", NONE, () -> keeper.hostOf(1));
        check.answers("22: another product", 0, () -> keeper.gapIf(1, 1, 0));
        keeper.move(1, 0);
        check.answers("22: where it is", 8, () -> keeper.gapIf(0, 1, 0));
        check.answers("22: to none", 17, () -> keeper.gapIf(0, 1, NONE));
        check.answers("22: to another host, which is cheaper to cover", 12, () -> keeper.gapIf(0, 1, 5));
        check.answers("22: a host to none", 8, () -> keeper.gapIf(0, 0, NONE));
        check.answers("22: another guest to none", 8, () -> keeper.gapIf(0, 3, NONE));
    }

    private void promise23Spare() {
        Recorded keeper = Recorded.withCores(6, 5, 9);
        keeper.buy(0, CORE, 13, 0);
        check.answers("23: what is over", 2, () -> keeper.spare(0));
        keeper.lend(0, 2);
        check.answers("23: nothing then", 0, () -> keeper.spare(0));
        check.answers("23: the gap stays", 9, () -> keeper.gap(0));
        keeper.buy(0, DEVICE, 2, 0);
        check.answers("23: another one helps", 6, () -> keeper.spare(0));
        check.answers("23: one of that", 1, () -> keeper.spare(1));
        keeper.lend(1, 1);
        check.answers("23: nothing of that then", 0, () -> keeper.spare(1));
        keeper.lend(1, -1);
        keeper.buy(0, DEVICE, 1, 0);
        check.answers("23: all of it", 11, () -> keeper.spare(0));
        check.answers("23: one of two", 2, () -> keeper.spare(1));
        keeper.lend(0, 11);
        check.answers("23: of an empty one", 0, () -> keeper.spare(0));
        keeper.buy(1, CORE, 3, 0);
        check.answers("23: of no use", 3, () -> keeper.spare(3));
        keeper.setPrice(0, 0);
        check.answers("23: the gap, not the set", 2, () -> keeper.spare(1));
        Recorded equal = Recorded.withCores(8, 4, 4);
        equal.buy(0, CORE, 8, 0);
        equal.move(1, 3);
        equal.move(2, 3);
        check.answers("23: the least of several ways", 4, () -> equal.spare(0));
        equal.setCores(3, 62);
        check.answers("23: no other way", 0, () -> equal.spare(0));
    }
}
