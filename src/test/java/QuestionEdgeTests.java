/** The edges of the promises 11 to 18, and of the terms on weights and on what a right covers. */
public final class QuestionEdgeTests extends BySentence {
    public static void main(String[] args) {
        new QuestionEdgeTests().runAll();
    }

    /** A keeper with two rights. */
    private static Recorded withTwoRights() {
        Recorded keeper = Recorded.withCores(6, 5);
        keeper.buy(0, DEVICE, 3, 1);
        keeper.buy(0, CORE, 9, 0);
        return keeper;
    }

    private static Recorded with12Rights() {
        Recorded keeper = withTwoRights();
        for (int right = 2; right < 12; right++) {
            keeper.buy(right % 4, right % 2, right, right);
        }
        return keeper;
    }

    // ---- today, rights

    @Says("Promise 11: Returns today.")
    void todayIsOnlyChangedByPass() {
        Recorded keeper = withTwoRights();
        answers(0, keeper::today);
        keeper.pass(1);
        answers(1, keeper::today);
        keeper.release(0);
        keeper.upgrade(1, 2);
        answers(1, keeper::today);
        keeper.pass(400);
        answers(401, keeper::today);
    }

    @Says("Promise 12: Returns how many rights there are.")
    void rightsAre0To12() {
        LicenceKeeper keeper = new LicenceKeeper();
        for (int right = 0; right < 12; right++) {
            answers(right, keeper::rights);
            keeper.buy(right % 4, DEVICE, 1, 0);
        }
        answers(12, keeper::rights);
        Check.outcome(() -> keeper.buy(0, DEVICE, 1, 0));
        answers(12, keeper::rights);
    }

    @Says("Promise 12: Returns how many rights there are.")
    void rightsAreThereWhenTheyAreEmpty() {
        Recorded keeper = withTwoRights();
        keeper.lend(0, 3);
        keeper.release(0);
        keeper.upgrade(1, 9);
        answers(3, keeper::rights);
    }

    // ---- countOf, versionOf

    @Says("Promise 13: right: its number")
    void countOfTheFirstAndTheLastRight() {
        Recorded keeper = with12Rights();
        answers(3, () -> keeper.countOf(0));
        answers(9, () -> keeper.countOf(1));
        answers(11, () -> keeper.countOf(11));
    }

    @Says("Promise 13: Returns the count; 0 if all of it was upgraded or lent out.")
    void countOfOneThatWasLentOut() {
        Recorded keeper = withTwoRights();
        keeper.lend(0, 2);
        answers(1, () -> keeper.countOf(0));
        keeper.lend(0, 1);
        answers(0, () -> keeper.countOf(0));
        keeper.lend(0, -1);
        answers(1, () -> keeper.countOf(0));
    }

    @Says("Promise 13: Returns the count; 0 if all of it was upgraded or lent out.")
    void countOfOneThatWasUpgraded() {
        Recorded keeper = withTwoRights();
        keeper.release(0);
        keeper.upgrade(1, 8);
        answers(1, () -> keeper.countOf(1));
        keeper.upgrade(1, 1);
        answers(0, () -> keeper.countOf(1));
    }

    @Says("Promise 13: Returns the count; 0 if all of it was upgraded or lent out.")
    void countOfOneThatWasUpgradedAndLentOut() {
        Recorded keeper = withTwoRights();
        keeper.release(0);
        keeper.upgrade(1, 5);
        keeper.lend(1, 4);
        answers(0, () -> keeper.countOf(1));
        answers(5, () -> keeper.countOf(2));
    }

    @Says("Promise 13: Throws IndexOutOfBoundsException if there is no such right")
    void countOfNoRight() {
        refusesOutside(INDEX, 0, -1, new Recorded(), LicenceKeeper::countOf);
        refusesOutside(INDEX, 0, 1, withTwoRights(), LicenceKeeper::countOf);
        refusesOutside(INDEX, 0, 11, with12Rights(), LicenceKeeper::countOf);
    }

    @Says("Promise 14: right: its number")
    void versionOfTheFirstAndTheLastRight() {
        Recorded keeper = new Recorded();
        keeper.buy(0, DEVICE, 1, 1);
        keeper.buy(1, DEVICE, 1, 0);
        keeper.release(3);
        keeper.release(3);
        keeper.buy(3, DEVICE, 1, 0);
        keeper.release(0);
        answers(2, () -> keeper.versionOf(0));
        answers(1, () -> keeper.versionOf(1));
        answers(3, () -> keeper.versionOf(2));
    }

    @Says("Promise 14: Returns the version.")
    void versionOfOneThatIsEmpty() {
        Recorded keeper = withTwoRights();
        keeper.release(0);
        keeper.lend(0, 3);
        keeper.upgrade(1, 9);
        answers(2, () -> keeper.versionOf(0));
        answers(1, () -> keeper.versionOf(1));
        answers(2, () -> keeper.versionOf(2));
    }

    @Says("Promise 14: Throws IndexOutOfBoundsException if there is no such right")
    void versionOfNoRight() {
        refusesOutside(INDEX, 0, -1, new Recorded(), LicenceKeeper::versionOf);
        refusesOutside(INDEX, 0, 1, withTwoRights(), LicenceKeeper::versionOf);
        refusesOutside(INDEX, 0, 11, with12Rights(), LicenceKeeper::versionOf);
    }

    // ---- latest, hostOf

    @Says("Promise 15: product: 0 to 3")
    void latestOfTheFirstAndTheLastProduct() {
        LicenceKeeper keeper = new LicenceKeeper();
        keeper.release(0);
        keeper.release(3);
        keeper.release(3);
        answers(2, () -> keeper.latest(0));
        answers(1, () -> keeper.latest(1));
        answers(1, () -> keeper.latest(2));
        answers(3, () -> keeper.latest(3));
    }

    @Says("Promise 15: Returns 1 to 9.")
    void latestIs1To9() {
        LicenceKeeper keeper = new LicenceKeeper();
        answers(1, () -> keeper.latest(2));
        for (int release = 0; release < 20; release++) {
            Check.outcome(() -> keeper.release(2));
        }
        answers(9, () -> keeper.latest(2));
    }

    @Says("Promise 15: Throws IndexOutOfBoundsException if there is no such product")
    void latestOfNoProduct() {
        refusesOutside(INDEX, 0, 3, new Recorded(), LicenceKeeper::latest);
    }

    @Says("Promise 16: machine: 0 to 7")
    void hostOfTheFirstAndTheLastMachine() {
        LicenceKeeper keeper = new LicenceKeeper();
        keeper.move(0, 4);
        keeper.move(7, 5);
        answers(4, () -> keeper.hostOf(0));
        answers(5, () -> keeper.hostOf(7));
    }

    @Says("Promise 16: Returns the host; NONE if it has none.")
    void hostOfOneOnTheFirstOrTheLastMachineOrOnNone() {
        LicenceKeeper keeper = new LicenceKeeper();
        keeper.move(4, 0);
        keeper.move(5, 7);
        answers(0, () -> keeper.hostOf(4));
        answers(7, () -> keeper.hostOf(5));
        answers(NONE, () -> keeper.hostOf(0));
        answers(NONE, () -> keeper.hostOf(3));
        keeper.move(4, NONE);
        answers(NONE, () -> keeper.hostOf(4));
    }

    @Says("Promise 16: Throws IndexOutOfBoundsException if there is no such machine")
    void hostOfNoMachine() {
        refusesOutside(INDEX, 0, 7, new Recorded(), LicenceKeeper::hostOf);
    }

    // ---- weight

    @Says("Promise 17: machine: 0 to 7")
    void weightOfTheFirstAndTheLastMachine() {
        LicenceKeeper keeper = new LicenceKeeper();
        keeper.setCores(0, 3);
        keeper.setCores(7, 5);
        keeper.find(0, 1, 1);
        keeper.find(7, 1, 1);
        answers(3, () -> keeper.weight(0, 1));
        answers(5, () -> keeper.weight(7, 1));
        answers(0, () -> keeper.weight(6, 1));
    }

    @Says("Promise 17: product: 0 to 3")
    void weightForTheFirstAndTheLastProduct() {
        LicenceKeeper keeper = new LicenceKeeper();
        keeper.find(4, 0, 1);
        keeper.find(4, 3, 1);
        keeper.setPrice(0, 10);
        keeper.setPrice(3, 13);
        answers(10, () -> keeper.weight(4, 0));
        answers(13, () -> keeper.weight(4, 3));
        answers(0, () -> keeper.weight(4, 1));
    }

    @Says("Machines: The weight of a machine for a product is its cores times the price of the product, if it has the "
            + "product, otherwise 0.")
    void weightIs0WithoutTheProduct() {
        LicenceKeeper keeper = new LicenceKeeper();
        keeper.setCores(4, 9);
        keeper.setPrice(1, 9);
        keeper.find(4, 2, 1);
        answers(0, () -> keeper.weight(4, 1));
        keeper.find(4, 1, 1);
        answers(81, () -> keeper.weight(4, 1));
        keeper.find(4, 1, 0);
        answers(0, () -> keeper.weight(4, 1));
    }

    @Says("Machines: The weight of a machine for a product is its cores times the price of the product, if it has the "
            + "product, otherwise 0.")
    void weightIs0ForThePrice0AndAtMost64000() {
        LicenceKeeper keeper = new LicenceKeeper();
        keeper.find(4, 1, 1);
        answers(1, () -> keeper.weight(4, 1));
        keeper.setCores(4, 64);
        keeper.setPrice(1, 1000);
        answers(64000, () -> keeper.weight(4, 1));
        keeper.setPrice(1, 0);
        answers(0, () -> keeper.weight(4, 1));
    }

    @Says("Machines: The weight of a machine for a product is its cores times the price of the product, if it has the "
            + "product, otherwise 0.")
    void weightIsTheSameForAllVersionsAndRights() {
        Recorded keeper = Recorded.withCores(6);
        keeper.release(0);
        keeper.buy(0, CORE, 500, 1);
        answers(6, () -> keeper.weight(0, 0));
        keeper.find(0, 0, 2);
        answers(6, () -> keeper.weight(0, 0));
    }

    @Says("Promise 17: Throws IndexOutOfBoundsException if there is no such machine or product")
    void weightOfNoMachine() {
        refusesOutside(INDEX, 0, 7, Recorded.withCores(6), (k, machine) -> k.weight(machine, 0));
    }

    @Says("Promise 17: Throws IndexOutOfBoundsException if there is no such machine or product")
    void weightForNoProduct() {
        refusesOutside(INDEX, 0, 3, Recorded.withCores(6), (k, product) -> k.weight(0, product));
    }

    // ---- covers

    @Says("Promise 18: right: its number")
    void coversOfTheFirstAndTheLastRight() {
        Recorded keeper = with12Rights();
        keeper.move(1, 0);
        keeper.find(0, 3, 1);
        answers(1, () -> keeper.covers(0, 0));
        answers(3, () -> keeper.covers(1, 0));
        answers(1, () -> keeper.covers(11, 0));
    }

    @Says("Promise 18: machine: 0 to 7")
    void coversOnTheFirstAndTheLastMachine() {
        Recorded keeper = withTwoRights();
        keeper.find(7, 0, 1);
        for (int right = 0; right < 2; right++) {
            int r = right;
            answers(1, () -> keeper.covers(r, 0));
            answers(128, () -> keeper.covers(r, 7));
            answers(0, () -> keeper.covers(r, 6));
        }
    }

    @Says("Promise 18: Returns the set of machines, whatever its count is.")
    void coversWhateverItsCountIs() {
        Recorded keeper = withTwoRights();
        keeper.setCores(0, 64);
        keeper.lend(0, 3);
        keeper.lend(1, 9);
        answers(1, () -> keeper.covers(0, 0));
        answers(1, () -> keeper.covers(1, 0));
    }

    @Says("Rights: It covers the machine itself; with the measure CORE the guests of the machine, too.")
    void coversNoGuestsByDevice() {
        Recorded keeper = withTwoRights();
        keeper.move(1, 0);
        answers(1, () -> keeper.covers(0, 0));
        answers(2, () -> keeper.covers(0, 1));
    }

    @Says("Rights: It covers the machine itself; with the measure CORE the guests of the machine, too.")
    void coversGuestsByCore() {
        Recorded keeper = withTwoRights();
        keeper.find(7, 0, 1);
        keeper.move(0, 1);
        keeper.move(7, 1);
        answers(131, () -> keeper.covers(1, 1));
        answers(1, () -> keeper.covers(1, 0));
        answers(128, () -> keeper.covers(1, 7));
        keeper.move(7, 5);
        answers(3, () -> keeper.covers(1, 1));
        answers(128, () -> keeper.covers(1, 5));
    }

    @Says("Rights: It covers the machine itself; with the measure CORE the guests of the machine, too.")
    void coversAllMachinesAtMost() {
        Recorded keeper = Recorded.withCores(1, 1, 1, 1, 1, 1, 1, 1);
        keeper.buy(0, CORE, 1, 0);
        for (int guest = 1; guest < 8; guest++) {
            keeper.move(guest, 0);
        }
        answers(255, () -> keeper.covers(0, 0));
    }

    @Says("Rights: But it covers only machines that have its product in its version or an earlier one.")
    void coversNothingWithoutItsProduct() {
        Recorded keeper = new Recorded();
        keeper.find(0, 1, 1);
        keeper.move(1, 0);
        keeper.buy(0, DEVICE, 1, 0);
        keeper.buy(0, CORE, 1, 0);
        answers(0, () -> keeper.covers(0, 0));
        answers(0, () -> keeper.covers(1, 0));
    }

    @Says("Rights: But it covers only machines that have its product in its version or an earlier one.")
    void coversItsVersionAndEarlierOnesNotLaterOnes() {
        Recorded keeper = new Recorded();
        for (int version = 2; version <= 5; version++) {
            keeper.release(0);
        }
        keeper.buy(0, DEVICE, 1, 0);
        keeper.release(0);
        for (int version = 1; version <= 5; version++) {
            keeper.find(3, 0, version);
            answers(8, () -> keeper.covers(0, 3));
        }
        keeper.find(3, 0, 6);
        answers(0, () -> keeper.covers(0, 3));
    }

    @Says("Rights: But it covers only machines that have its product in its version or an earlier one.")
    void coversGuestsByTheirOwnVersions() {
        Recorded keeper = Recorded.withCores(1, 1, 1);
        keeper.buy(0, CORE, 4, 0);
        keeper.move(1, 0);
        keeper.move(2, 0);
        keeper.release(0);
        keeper.find(0, 0, 2);
        answers(6, () -> keeper.covers(0, 0));
        keeper.find(0, 0, 0);
        answers(6, () -> keeper.covers(0, 0));
        keeper.find(1, 0, 2);
        answers(4, () -> keeper.covers(0, 0));
    }

    @Says("Promise 18: Throws IndexOutOfBoundsException if there is no such right or machine")
    void coversOfNoRight() {
        refusesOutside(INDEX, 0, -1, new Recorded(), (k, right) -> k.covers(right, 0));
        refusesOutside(INDEX, 0, 1, withTwoRights(), (k, right) -> k.covers(right, 0));
        refusesOutside(INDEX, 0, 11, with12Rights(), (k, right) -> k.covers(right, 0));
    }

    @Says("Promise 18: Throws IndexOutOfBoundsException if there is no such right or machine")
    void coversOnNoMachine() {
        refusesOutside(INDEX, 0, 7, withTwoRights(), (k, machine) -> k.covers(0, machine));
        refusesOutside(INDEX, 0, 7, withTwoRights(), (k, machine) -> k.covers(1, machine));
    }

    @Says("Terms: Questions change nothing.")
    void questionsChangeNothing() {
        Recorded keeper = withTwoRights();
        keeper.move(1, 0);
        LicenceKeeper asked = keeper.again();
        Snapshot.ofQuestions(asked);
        changedNothing(asked, keeper);
    }
}
