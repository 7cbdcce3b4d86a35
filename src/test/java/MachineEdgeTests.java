/** The edges of the promises 1 to 4, and of the terms on machines. */
public final class MachineEdgeTests extends BySentence {
    public static void main(String[] args) {
        new MachineEdgeTests().runAll();
    }

    // ---- a new object

    @Says("What it is: An object is used for at most 512 calls after it has been made")
    void call512Answers() {
        LicenceKeeper keeper = new LicenceKeeper();
        keeper.find(7, 3, 1);
        for (int call = 2; call <= 511; call++) {
            keeper.setCores(7, call % 64 + 1);
        }
        answers(511 % 64 + 1, () -> keeper.gap(3));
    }

    @Says("What it is: An object is used for at most 512 calls after it has been made")
    void call512AnswersAfterGapsOfAllRights() {
        LicenceKeeper keeper = new LicenceKeeper();
        for (int machine = 0; machine < 8; machine++) {
            keeper.find(machine, 0, 1);
        }
        for (int right = 0; right < 12; right++) {
            keeper.buy(0, right % 2, 500, 1);
        }
        for (int call = 21; call <= 511; call++) {
            keeper.gap(0);
        }
        answers(500, () -> keeper.spare(11));
    }

    @Says("Promise 1: Makes a keeper without rights, on day 0.")
    void newKeeperHasNoRights() {
        Recorded keeper = new Recorded();
        answers(0, keeper::rights);
        refuses(INDEX, keeper, k -> k.countOf(0));
    }

    @Says("Promise 1: Makes a keeper without rights, on day 0.")
    void newKeeperIsOnDay0() {
        answers(0, new LicenceKeeper()::today);
        answers(1, () -> new LicenceKeeper().pass(1));
    }

    @Says("Promise 1: Makes a keeper without rights, on day 0.")
    void newKeeperHasNothingOfAnother() {
        LicenceKeeper before = new LicenceKeeper();
        Recorded other = Recorded.withCores(6, 5);
        other.buy(0, CORE, 9, 4);
        other.pass(3);
        other.release(0);
        other.setPrice(1, 4);
        other.move(3, 4);
        other.gapIf(0, 0, 1);
        isNew(before);
        isNew(new LicenceKeeper());
    }

    private void isNew(LicenceKeeper keeper) {
        answers(0, keeper::today);
        answers(0, keeper::rights);
        answers(1, () -> keeper.latest(0));
        answers(NONE, () -> keeper.hostOf(3));
        answers(0, () -> keeper.gap(0));
        answers(1, () -> keeper.setPrice(1, 1));
        answers(1, () -> keeper.setCores(0, 1));
        answers(0, () -> keeper.find(0, 0, 0));
    }

    @Says("Machines: There are the machines 0 to 7, each with cores, 1 at first, and a host, another machine, or none, "
            + "as at first.")
    void eachMachineHasOneCoreAtFirst() {
        for (int machine = 0; machine < 8; machine++) {
            int m = machine;
            answers(1, () -> new LicenceKeeper().setCores(m, 2));
        }
    }

    @Says("Machines: There are the machines 0 to 7, each with cores, 1 at first, and a host, another machine, or none, "
            + "as at first.")
    void noMachineHasAHostAtFirst() {
        for (int machine = 0; machine < 8; machine++) {
            int m = machine;
            answers(NONE, () -> new LicenceKeeper().hostOf(m));
        }
    }

    @Says("Machines: A machine that is a host has no host.")
    void hostHasNoHost() {
        Recorded keeper = new Recorded();
        keeper.move(1, 0);
        answers(NONE, () -> keeper.hostOf(0));
        refuses(STATE, keeper, k -> k.move(0, 2));
        refuses(STATE, keeper, k -> k.move(2, 1));
    }

    @Says("Machines: There are the products 0 to 3, each with a latest version, 1 at first, and a price, 1 at first.")
    void eachProductHasVersion1AtFirst() {
        for (int product = 0; product < 4; product++) {
            int p = product;
            answers(1, () -> new LicenceKeeper().latest(p));
        }
    }

    @Says("Machines: There are the products 0 to 3, each with a latest version, 1 at first, and a price, 1 at first.")
    void eachProductHasPrice1AtFirst() {
        for (int product = 0; product < 4; product++) {
            int p = product;
            answers(1, () -> new LicenceKeeper().setPrice(p, 2));
        }
    }

    @Says("Machines: A machine has a version of a product, or not the product at all, as at first.")
    void noMachineHasAProductAtFirst() {
        for (int machine = 0; machine < 8; machine++) {
            for (int product = 0; product < 4; product++) {
                int m = machine;
                int p = product;
                answers(0, () -> new LicenceKeeper().find(m, p, 1));
                answers(0, () -> new LicenceKeeper().weight(m, p));
            }
        }
    }

    // ---- setCores

    @Says("Promise 2: machine: 0 to 7")
    void setCoresOfTheFirstAndTheLastMachine() {
        LicenceKeeper keeper = new LicenceKeeper();
        answers(1, () -> keeper.setCores(0, 10));
        answers(1, () -> keeper.setCores(7, 17));
        answers(10, () -> keeper.setCores(0, 1));
        answers(17, () -> keeper.setCores(7, 1));
    }

    @Says("Promise 2: cores: 1 to 64")
    void setCoresTakes1And64() {
        LicenceKeeper keeper = new LicenceKeeper();
        answers(1, () -> keeper.setCores(3, 64));
        answers(64, () -> keeper.setCores(3, 1));
        answers(1, () -> keeper.setCores(3, 2));
    }

    @Says("Promise 2: Returns the cores before.")
    void setCoresAnswersWhatWasBefore() {
        LicenceKeeper keeper = new LicenceKeeper();
        answers(1, () -> keeper.setCores(3, 9));
        answers(9, () -> keeper.setCores(3, 9));
        answers(9, () -> keeper.setCores(3, 8));
        answers(1, () -> keeper.setCores(4, 8));
    }

    @Says("Promise 2: Throws IndexOutOfBoundsException if there is no such machine")
    void setCoresOfNoMachine() {
        refusesOutside(INDEX, 0, 7, new Recorded(), (k, machine) -> k.setCores(machine, 2));
    }

    @Says("Promise 2: Throws IllegalArgumentException if cores is out of range")
    void setCoresTooFewOrTooMany() {
        refusesOutside(ARGUMENT, 1, 64, new Recorded(), (k, cores) -> k.setCores(0, cores));
        refusesOutside(ARGUMENT, 1, 64, Recorded.withCores(5), (k, cores) -> k.setCores(0, cores));
    }

    @Says("Exceptions: If several apply, the one that is named first in the throws clause is thrown.")
    void setCoresOfNoMachineAndOutOfRange() {
        refusesOutside(INDEX, 0, 7, new Recorded(), (k, machine) -> k.setCores(machine, 0));
        refusesOutside(INDEX, 0, 7, new Recorded(), (k, machine) -> k.setCores(machine, 65));
    }

    // ---- move

    @Says("Promise 3: machine: 0 to 7")
    void moveTheFirstAndTheLastMachine() {
        LicenceKeeper keeper = new LicenceKeeper();
        answers(NONE, () -> keeper.move(0, 3));
        answers(NONE, () -> keeper.move(7, 3));
        answers(3, () -> keeper.hostOf(0));
        answers(3, () -> keeper.hostOf(7));
    }

    @Says("Promise 3: host: 0 to 7; NONE for none")
    void moveToTheFirstAndTheLastMachine() {
        LicenceKeeper keeper = new LicenceKeeper();
        answers(NONE, () -> keeper.move(3, 0));
        answers(NONE, () -> keeper.move(4, 7));
        answers(0, () -> keeper.hostOf(3));
        answers(7, () -> keeper.hostOf(4));
    }

    @Says("Promise 3: host: 0 to 7; NONE for none")
    void moveToNone() {
        LicenceKeeper keeper = new LicenceKeeper();
        keeper.move(3, 0);
        answers(0, () -> keeper.move(3, NONE));
        answers(NONE, () -> keeper.hostOf(3));
    }

    @Says("Promise 3: host: 0 to 7; NONE for none")
    void moveAHostToNoneThoughItHasGuests() {
        LicenceKeeper keeper = new LicenceKeeper();
        keeper.move(3, 0);
        answers(NONE, () -> keeper.move(0, NONE));
        answers(0, () -> keeper.hostOf(3));
    }

    @Says("Promise 3: Returns the host before; NONE if it had none.")
    void moveAnswersTheHostBefore() {
        LicenceKeeper keeper = new LicenceKeeper();
        answers(NONE, () -> keeper.move(3, NONE));
        answers(NONE, () -> keeper.move(3, 0));
        answers(0, () -> keeper.move(3, 0));
        answers(0, () -> keeper.move(3, 7));
        answers(7, () -> keeper.move(3, NONE));
        answers(NONE, () -> keeper.move(3, NONE));
    }

    @Says("Promise 3: Throws IndexOutOfBoundsException if there is no such machine or host")
    void moveNoMachine() {
        refusesOutside(INDEX, 0, 7, new Recorded(), (k, machine) -> k.move(machine, 5));
        refusesOutside(INDEX, 0, 7, new Recorded(), (k, machine) -> k.move(machine, NONE));
    }

    @Says("Promise 3: Throws IndexOutOfBoundsException if there is no such machine or host")
    void moveToNoMachine() {
        refusesOutside(INDEX, NONE, 7, new Recorded(), (k, host) -> k.move(5, host));
    }

    @Says("Promise 3: Throws IllegalArgumentException if both are the same")
    void moveToItself() {
        for (int machine = 0; machine < 8; machine++) {
            int m = machine;
            refuses(ARGUMENT, new Recorded(), k -> k.move(m, m));
        }
    }

    @Says("Promise 3: Throws IllegalStateException if the machine is a host and would have one, or the host has a host")
    void moveAHostToAHost() {
        for (int machine = 0; machine < 8; machine++) {
            int host = machine;
            Recorded keeper = new Recorded();
            keeper.move((host + 1) % 8, host);
            refuses(STATE, keeper, k -> k.move(host, (host + 2) % 8));
            refuses(STATE, keeper, k -> k.move(host, (host + 7) % 8));
            refuses(STATE, keeper, k -> k.move(host, (host + 1) % 8));
        }
    }

    @Says("Promise 3: Throws IllegalStateException if the machine is a host and would have one, or the host has a host")
    void moveToAMachineThatHasAHost() {
        for (int machine = 0; machine < 8; machine++) {
            int guest = machine;
            Recorded keeper = new Recorded();
            keeper.move(guest, (guest + 1) % 8);
            refuses(STATE, keeper, k -> k.move((guest + 2) % 8, guest));
            refuses(STATE, keeper, k -> k.move((guest + 7) % 8, guest));
        }
    }

    @Says("Promise 3: Throws IllegalStateException if the machine is a host and would have one, or the host has a host")
    void moveOnceItIsNoHostAnyMore() {
        Recorded keeper = new Recorded();
        keeper.move(1, 0);
        keeper.move(2, 0);
        keeper.move(1, NONE);
        refuses(STATE, keeper, k -> k.move(0, 5));
        keeper.move(2, 6);
        answers(NONE, () -> keeper.move(0, 5));
    }

    @Says("Promise 3: Throws IllegalStateException if the machine is a host and would have one, or the host has a host")
    void moveOnceTheHostHasNoHostAnyMore() {
        Recorded keeper = new Recorded();
        keeper.move(1, 0);
        refuses(STATE, keeper, k -> k.move(2, 1));
        keeper.move(1, NONE);
        answers(NONE, () -> keeper.move(2, 1));
    }

    @Says("Exceptions: If several apply, the one that is named first in the throws clause is thrown.")
    void moveNoMachineToItself() {
        for (int machine : new int[] {Integer.MIN_VALUE, -2, NONE, 8, Integer.MAX_VALUE}) {
            refuses(INDEX, new Recorded(), k -> k.move(machine, machine));
        }
    }

    @Says("Exceptions: If several apply, the one that is named first in the throws clause is thrown.")
    void moveAHostToItself() {
        Recorded keeper = new Recorded();
        keeper.move(1, 0);
        refuses(ARGUMENT, keeper, k -> k.move(0, 0));
        refuses(ARGUMENT, keeper, k -> k.move(1, 1));
    }

    @Says("Exceptions: If several apply, the one that is named first in the throws clause is thrown.")
    void moveAHostToNoMachine() {
        Recorded keeper = new Recorded();
        keeper.move(1, 0);
        refusesOutside(INDEX, NONE, 7, keeper, (k, host) -> k.move(0, host));
        refusesOutside(INDEX, 0, 7, keeper, (k, machine) -> k.move(machine, 1));
    }

    // ---- find

    @Says("Promise 4: machine: 0 to 7")
    void findOnTheFirstAndTheLastMachine() {
        LicenceKeeper keeper = new LicenceKeeper();
        answers(0, () -> keeper.find(0, 2, 1));
        answers(0, () -> keeper.find(7, 2, 1));
        answers(129, () -> keeper.uncovered(2));
    }

    @Says("Promise 4: product: 0 to 3")
    void findTheFirstAndTheLastProduct() {
        LicenceKeeper keeper = new LicenceKeeper();
        answers(0, () -> keeper.find(5, 0, 1));
        answers(0, () -> keeper.find(5, 3, 1));
        answers(1, () -> keeper.weight(5, 0));
        answers(1, () -> keeper.weight(5, 3));
        answers(0, () -> keeper.weight(5, 1));
    }

    @Says("Promise 4: version: 1 to the latest version of the product; 0 if it was not found any more")
    void findVersion1AndTheLatest() {
        LicenceKeeper keeper = new LicenceKeeper();
        answers(0, () -> keeper.find(5, 2, 1));
        keeper.release(2);
        answers(1, () -> keeper.find(5, 2, 2));
        answers(2, () -> keeper.find(5, 2, 1));
        for (int version = 3; version <= 9; version++) {
            keeper.release(2);
        }
        answers(1, () -> keeper.find(5, 2, 9));
        answers(9, () -> keeper.find(5, 2, 1));
    }

    @Says("Promise 4: version: 1 to the latest version of the product; 0 if it was not found any more")
    void findItNotAnyMore() {
        LicenceKeeper keeper = new LicenceKeeper();
        keeper.find(5, 2, 1);
        answers(1, () -> keeper.find(5, 2, 0));
        answers(0, () -> keeper.weight(5, 2));
        answers(0, () -> keeper.find(5, 2, 0));
    }

    @Says("Promise 4: Tells that a product was found on a machine, in place of another version of it.")
    void findInPlaceOfALaterVersion() {
        LicenceKeeper keeper = new LicenceKeeper();
        keeper.buy(2, DEVICE, 1, 0);
        keeper.release(2);
        keeper.find(5, 2, 2);
        answers(0, () -> keeper.covers(0, 5));
        keeper.find(5, 2, 1);
        answers(32, () -> keeper.covers(0, 5));
        keeper.find(5, 2, 2);
        answers(0, () -> keeper.covers(0, 5));
    }

    @Says("Promise 4: Returns the version before; 0 if it had none.")
    void findAnswersTheVersionBefore() {
        LicenceKeeper keeper = new LicenceKeeper();
        keeper.release(2);
        answers(0, () -> keeper.find(5, 2, 2));
        answers(2, () -> keeper.find(5, 2, 2));
        answers(2, () -> keeper.find(5, 2, 0));
        answers(0, () -> keeper.find(5, 2, 1));
        answers(0, () -> keeper.find(5, 3, 1));
        answers(0, () -> keeper.find(4, 2, 1));
    }

    @Says("Promise 4: Throws IndexOutOfBoundsException if there is no such machine or product")
    void findOnNoMachine() {
        refusesOutside(INDEX, 0, 7, new Recorded(), (k, machine) -> k.find(machine, 2, 1));
        refusesOutside(INDEX, 0, 7, new Recorded(), (k, machine) -> k.find(machine, 2, 0));
    }

    @Says("Promise 4: Throws IndexOutOfBoundsException if there is no such machine or product")
    void findNoProduct() {
        refusesOutside(INDEX, 0, 3, new Recorded(), (k, product) -> k.find(5, product, 1));
        refusesOutside(INDEX, 0, 3, new Recorded(), (k, product) -> k.find(5, product, 0));
    }

    @Says("Promise 4: Throws IllegalArgumentException if version is out of range")
    void findNoVersion() {
        Recorded keeper = new Recorded();
        refusesOutside(ARGUMENT, 0, 1, keeper, (k, version) -> k.find(5, 2, version));
        keeper.release(2);
        refusesOutside(ARGUMENT, 0, 2, keeper, (k, version) -> k.find(5, 2, version));
        refusesOutside(ARGUMENT, 0, 1, keeper, (k, version) -> k.find(5, 1, version));
        for (int version = 3; version <= 9; version++) {
            keeper.release(2);
        }
        refusesOutside(ARGUMENT, 0, 9, keeper, (k, version) -> k.find(5, 2, version));
    }

    @Says("Exceptions: If several apply, the one that is named first in the throws clause is thrown.")
    void findOnNoMachineNoVersion() {
        refusesOutside(INDEX, 0, 7, new Recorded(), (k, machine) -> k.find(machine, 2, 2));
        refusesOutside(INDEX, 0, 3, new Recorded(), (k, product) -> k.find(5, product, 2));
        refusesOutside(INDEX, 0, 3, new Recorded(), (k, product) -> k.find(5, product, -1));
    }

    @Says("Exceptions: A call that throws an exception changes nothing.")
    void refusedChangesOfMachinesChangeNothing() {
        Recorded keeper = Recorded.withCores(5, 6);
        keeper.move(1, 0);
        LicenceKeeper called = keeper.again();
        Check.outcome(() -> called.setCores(0, 65));
        Check.outcome(() -> called.setCores(0, 0));
        Check.outcome(() -> called.move(0, 2));
        Check.outcome(() -> called.move(2, 1));
        Check.outcome(() -> called.move(1, 1));
        Check.outcome(() -> called.move(1, 8));
        Check.outcome(() -> called.find(0, 0, 2));
        Check.outcome(() -> called.find(0, 0, -1));
        changedNothing(called, keeper);
    }
}
