/** The edges of the promises 19 to 23, and of the terms on layings and gaps. */
public final class GapEdgeTests extends BySentence {
    public static void main(String[] args) {
        new GapEdgeTests().runAll();
    }

    /** The product 0 on as many machines with these cores, and one right by core for it. */
    private static Recorded byCore(int count, int... cores) {
        Recorded keeper = Recorded.withCores(cores);
        keeper.buy(0, CORE, count, 0);
        return keeper;
    }

    private static Recorded byDevice(int count, int... cores) {
        Recorded keeper = Recorded.withCores(cores);
        keeper.buy(0, DEVICE, count, 0);
        return keeper;
    }

    // ---- what a right takes

    @Says("Rights: as many of its count as its measure tells: DEVICE 1; CORE as many as the machine has cores, but at "
            + "least 4")
    void deviceTakes1() {
        answers(0, () -> byDevice(1, 64).gap(0));
        answers(1, () -> byDevice(1, 64, 1).gap(0));
        answers(0, () -> byDevice(2, 64, 1).gap(0));
    }

    @Says("Rights: as many of its count as its measure tells: DEVICE 1; CORE as many as the machine has cores, but at "
            + "least 4")
    void coreTakesAtLeast4() {
        for (int cores = 1; cores <= 4; cores++) {
            int c = cores;
            answers(c, () -> byCore(3, c).gap(0));
            answers(0, () -> byCore(4, c).gap(0));
            answers(c, () -> byCore(7, c, c).gap(0));
            answers(0, () -> byCore(8, c, c).gap(0));
        }
    }

    @Says("Rights: as many of its count as its measure tells: DEVICE 1; CORE as many as the machine has cores, but at "
            + "least 4")
    void coreTakesAsManyAsTheMachineHas() {
        for (int cores = 5; cores <= 64; cores++) {
            int c = cores;
            answers(c, () -> byCore(c - 1, c).gap(0));
            answers(0, () -> byCore(c, c).gap(0));
        }
    }

    @Says("Rights: as many of its count as its measure tells: DEVICE 1; CORE as many as the machine has cores, but at "
            + "least 4")
    void coreTakesWhatTheHostHasNotWhatItsGuestsHave() {
        Recorded keeper = byCore(4, 1, 64, 64);
        keeper.move(1, 0);
        keeper.move(2, 0);
        answers(0, () -> keeper.gap(0));
    }

    // ---- layings

    @Says("Rights: such that it takes no more than its count for all of these")
    void layingTakesNoMoreThanTheCount() {
        answers(0, () -> byCore(15, 4, 5, 6).gap(0));
        answers(4, () -> byCore(14, 4, 5, 6).gap(0));
        answers(4, () -> byCore(11, 4, 5, 6).gap(0));
        answers(5, () -> byCore(10, 4, 5, 6).gap(0));
        answers(6, () -> byCore(9, 4, 5, 6).gap(0));
        answers(15, () -> byCore(3, 4, 5, 6).gap(0));
    }

    @Says("Rights: A laying is, for each right of a product, a set of machines on which it is laid")
    void layingDoesNotJoinTwoRightsOnOneMachine() {
        Recorded keeper = byCore(4, 8);
        keeper.buy(0, CORE, 4, 0);
        answers(8, () -> keeper.gap(0));
        keeper.setCores(0, 4);
        answers(0, () -> keeper.gap(0));
    }

    @Says("Rights: A laying is, for each right of a product, a set of machines on which it is laid")
    void layingOnAMachineThatTheRightDoesNotCover() {
        Recorded keeper = byCore(4, 1, 9);
        keeper.move(1, 0);
        keeper.find(0, 0, 0);
        answers(0, () -> keeper.gap(0));
        keeper.release(0);
        keeper.find(0, 0, 2);
        answers(1, () -> keeper.gap(0));
    }

    @Says("Rights: A laying is, for each right of a product, a set of machines on which it is laid")
    void layingOfRightsOfOtherProducts() {
        Recorded keeper = byDevice(1, 5);
        keeper.find(0, 1, 1);
        keeper.find(0, 2, 1);
        keeper.buy(1, DEVICE, 1, 0);
        answers(0, () -> keeper.gap(0));
        answers(0, () -> keeper.gap(1));
        answers(5, () -> keeper.gap(2));
    }

    @Says("Rights: A laying is, for each right of a product, a set of machines on which it is laid")
    void layingOfRightsByTheirVersions() {
        Recorded keeper = byDevice(1, 9, 8, 7);
        keeper.release(0);
        keeper.find(0, 0, 2);
        answers(16, () -> keeper.gap(0));
        keeper.buy(0, DEVICE, 1, 0);
        answers(7, () -> keeper.gap(0));
        answers(4, () -> keeper.uncovered(0));
    }

    @Says("Rights: The gap of a product is the least sum of weights of machines that are not covered by any right, over "
            + "all layings")
    void gapIsLeastWhereTheDearestIsLeftOut() {
        answers(6, () -> byCore(10, 5, 5, 6).gap(0));
        answers(4, () -> byCore(10, 5, 5, 6).uncovered(0));
    }

    @Says("Rights: The gap of a product is the least sum of weights of machines that are not covered by any right, over "
            + "all layings")
    void gapIsLeastByGuests() {
        Recorded keeper = byCore(5, 5, 4, 4, 4);
        keeper.move(1, 4);
        keeper.move(2, 4);
        keeper.move(3, 4);
        answers(5, () -> keeper.gap(0));
        keeper.setCores(4, 6);
        answers(12, () -> keeper.gap(0));
    }

    // ---- gap

    @Says("Promise 19: product: 0 to 3")
    void gapOfTheFirstAndTheLastProduct() {
        LicenceKeeper keeper = new LicenceKeeper();
        keeper.setCores(4, 6);
        keeper.find(4, 0, 1);
        keeper.find(5, 3, 1);
        answers(6, () -> keeper.gap(0));
        answers(1, () -> keeper.gap(3));
        answers(0, () -> keeper.gap(1));
    }

    @Says("Promise 19: Returns the gap.")
    void gapWithoutRightsIsAll() {
        answers(0, () -> new LicenceKeeper().gap(0));
        Recorded keeper = Recorded.withCores(64, 64, 64, 64, 64, 64, 64, 64);
        answers(512, () -> keeper.gap(0));
        keeper.setPrice(0, 1000);
        answers(512000, () -> keeper.gap(0));
        keeper.setPrice(0, 0);
        answers(0, () -> keeper.gap(0));
    }

    @Says("Promise 19: Returns the gap.")
    void gapWithEmptyRightsIsAll() {
        Recorded keeper = byCore(9, 5, 4);
        answers(0, () -> keeper.gap(0));
        keeper.lend(0, 9);
        answers(9, () -> keeper.gap(0));
        keeper.lend(0, -5);
        answers(4, () -> keeper.gap(0));
    }

    @Says("Promise 19: Returns the gap.")
    void gapWith12Rights() {
        Recorded keeper = Recorded.withCores(8, 8, 8, 8, 8, 8, 8, 8);
        for (int right = 0; right < 12; right++) {
            boolean outer = right == 0 || right == 11;
            keeper.buy(0, outer ? DEVICE : CORE, outer ? 1 : 7, 0);
        }
        answers(6 * 8, () -> keeper.gap(0));
        for (int machine = 2; machine < 8; machine++) {
            keeper.setCores(machine, 7);
        }
        answers(0, () -> keeper.gap(0));
        keeper.lend(11, 1);
        answers(8, () -> keeper.gap(0));
    }

    @Says("Promise 19: Throws IndexOutOfBoundsException if there is no such product")
    void gapOfNoProduct() {
        refusesOutside(INDEX, 0, 3, byCore(4, 5), LicenceKeeper::gap);
    }

    // ---- uncovered

    @Says("Promise 20: product: 0 to 3")
    void uncoveredOfTheFirstAndTheLastProduct() {
        LicenceKeeper keeper = new LicenceKeeper();
        keeper.find(4, 0, 1);
        keeper.find(5, 3, 1);
        answers(16, () -> keeper.uncovered(0));
        answers(32, () -> keeper.uncovered(3));
    }

    @Says("Rights: the machines that are not covered in a laying with this sum are told as a set, bit m for the machine m")
    void uncoveredIsASetOfNoneToAll() {
        answers(0, () -> new LicenceKeeper().uncovered(0));
        Recorded keeper = Recorded.withCores(2, 2, 2, 2, 2, 2, 2, 2);
        answers(255, () -> keeper.uncovered(0));
        keeper.buy(0, DEVICE, 8, 0);
        answers(0, () -> keeper.uncovered(0));
        for (int machine = 0; machine < 8; machine++) {
            int m = machine;
            keeper.lend(0, keeper.countOf(0) - 7);
            keeper.setCores(m, 1);
            answers(1 << m, () -> keeper.uncovered(0));
            keeper.setCores(m, 2);
        }
    }

    @Says("Rights: of several such sets it is the least number")
    void uncoveredIsTheLeastNumberOfEqualSums() {
        answers(3, () -> byDevice(1, 5, 5, 5).uncovered(0));
        answers(1, () -> byDevice(2, 5, 5, 5).uncovered(0));
        answers(3, () -> byCore(8, 4, 4, 8).uncovered(0));
        answers(127, () -> byDevice(1, 1, 1, 1, 1, 1, 1, 1, 1).uncovered(0));
    }

    @Says("Rights: of several such sets it is the least number")
    void uncoveredIsTheLeastNumberOnlyOfEqualSums() {
        answers(6, () -> byDevice(1, 6, 5, 5).uncovered(0));
        answers(4, () -> byDevice(2, 5, 5, 4).uncovered(0));
    }

    @Says("Rights: of several such sets it is the least number")
    void uncoveredIsTheLeastNumberForThePrice0() {
        Recorded keeper = byDevice(1, 6, 5, 5);
        keeper.setPrice(0, 0);
        answers(3, () -> keeper.uncovered(0));
        keeper.lend(0, 1);
        answers(7, () -> keeper.uncovered(0));
    }

    @Says("Promise 20: Returns the set; machines without the product are never in it.")
    void uncoveredHasNoMachineWithoutTheProduct() {
        Recorded keeper = Recorded.withCores(5, 5, 5);
        keeper.find(1, 0, 0);
        answers(5, () -> keeper.uncovered(0));
        keeper.setPrice(0, 0);
        answers(5, () -> keeper.uncovered(0));
        answers(0, () -> keeper.uncovered(1));
        keeper.buy(0, DEVICE, 1, 0);
        answers(1, () -> keeper.uncovered(0));
    }

    @Says("Promise 20: Throws IndexOutOfBoundsException if there is no such product")
    void uncoveredOfNoProduct() {
        refusesOutside(INDEX, 0, 3, byCore(4, 5), LicenceKeeper::uncovered);
    }

    // ---- gapByAll

    @Says("Promise 21: product: 0 to 3")
    void gapByAllOfTheFirstAndTheLastProduct() {
        LicenceKeeper keeper = new LicenceKeeper();
        keeper.setCores(4, 6);
        keeper.find(4, 0, 1);
        keeper.find(5, 3, 1);
        answers(6, () -> keeper.gapByAll(0));
        answers(1, () -> keeper.gapByAll(3));
        keeper.buy(3, DEVICE, 1, 0);
        answers(0, () -> keeper.gapByAll(3));
    }

    @Says("Promise 21: Returns the gap of a product, found by trying for each right one after the other all sets of "
            + "machines on which it can be laid.")
    void gapByAllWithNoRightOneAndTwo() {
        Recorded keeper = Recorded.withCores(6, 5, 5, 4);
        answers(20, () -> keeper.gapByAll(0));
        keeper.buy(0, CORE, 10, 0);
        answers(10, () -> keeper.gapByAll(0));
        keeper.buy(0, CORE, 9, 0);
        answers(4, () -> keeper.gapByAll(0));
    }

    @Says("Promise 21: Returns the gap of a product, found by trying for each right one after the other all sets of "
            + "machines on which it can be laid.")
    void gapByAllOnNoneAndOnAll() {
        Recorded none = byCore(3, 1, 1, 1, 1, 1, 1, 1, 1);
        answers(8, () -> none.gapByAll(0));
        Recorded all = byCore(32, 1, 1, 1, 1, 1, 1, 1, 1);
        answers(0, () -> all.gapByAll(0));
        all.lend(0, 1);
        answers(1, () -> all.gapByAll(0));
    }

    @Says("Promise 21: Throws IndexOutOfBoundsException if there is no such product")
    void gapByAllOfNoProduct() {
        refusesOutside(INDEX, 0, 3, byCore(4, 5), LicenceKeeper::gapByAll);
    }

    @Says("Promise 21: Throws IllegalStateException if the product has more than 2 rights with a count above 0")
    void gapByAllOf2RightsNotOf3() {
        Recorded keeper = byDevice(1, 5, 6, 7);
        keeper.buy(0, DEVICE, 1, 0);
        answers(5, () -> keeper.gapByAll(0));
        keeper.buy(0, DEVICE, 1, 0);
        refuses(STATE, keeper, k -> k.gapByAll(0));
    }

    @Says("Promise 21: Throws IllegalStateException if the product has more than 2 rights with a count above 0")
    void gapByAllDoesNotCountEmptyRights() {
        Recorded keeper = Recorded.withCores(5, 6, 7);
        for (int right = 0; right < 12; right++) {
            keeper.buy(0, DEVICE, 1, 0);
        }
        for (int right = 0; right < 9; right++) {
            keeper.lend(right, 1);
        }
        refuses(STATE, keeper, k -> k.gapByAll(0));
        keeper.lend(9, 1);
        answers(5, () -> keeper.gapByAll(0));
        keeper.lend(0, -1);
        refuses(STATE, keeper, k -> k.gapByAll(0));
    }

    @Says("Promise 21: Throws IllegalStateException if the product has more than 2 rights with a count above 0")
    void gapByAllCountsRightsThatAreOfNoUse() {
        Recorded keeper = byCore(3, 5, 6, 7);
        keeper.buy(0, CORE, 1, 0);
        answers(18, () -> keeper.gapByAll(0));
        keeper.buy(0, CORE, 1, 0);
        refuses(STATE, keeper, k -> k.gapByAll(0));
    }

    @Says("Promise 21: Throws IllegalStateException if the product has more than 2 rights with a count above 0")
    void gapByAllDoesNotCountRightsOfOtherProducts() {
        Recorded keeper = byDevice(1, 5, 6, 7);
        keeper.buy(0, DEVICE, 1, 0);
        for (int right = 2; right < 12; right++) {
            keeper.buy(1, DEVICE, 1, 0);
        }
        answers(5, () -> keeper.gapByAll(0));
        refuses(STATE, keeper, k -> k.gapByAll(1));
        answers(0, () -> keeper.gapByAll(2));
    }

    @Says("Exceptions: If several apply, the one that is named first in the throws clause is thrown.")
    void gapByAllOfNoProductWithManyRights() {
        Recorded keeper = new Recorded();
        for (int right = 0; right < 12; right++) {
            keeper.buy(right % 4, DEVICE, 1, 0);
        }
        refusesOutside(INDEX, 0, 3, keeper, LicenceKeeper::gapByAll);
    }

    // ---- gapIf

    @Says("Promise 22: product: 0 to 3")
    void gapIfOfTheFirstAndTheLastProduct() {
        LicenceKeeper keeper = new LicenceKeeper();
        for (int product = 0; product < 4; product += 3) {
            keeper.find(4, product, 1);
            keeper.find(5, product, 1);
            keeper.setPrice(product, product + 1);
            keeper.buy(product, CORE, 4, 0);
        }
        answers(1, () -> keeper.gapIf(0, 4, NONE));
        answers(0, () -> keeper.gapIf(0, 4, 5));
        answers(4, () -> keeper.gapIf(3, 4, NONE));
        answers(0, () -> keeper.gapIf(3, 4, 5));
    }

    @Says("Promise 22: machine: 0 to 7")
    void gapIfTheFirstOrTheLastMachineWasMoved() {
        Recorded keeper = byCore(4, 1, 1, 1, 1, 1, 1, 1, 1);
        answers(6, () -> keeper.gapIf(0, 0, 3));
        answers(6, () -> keeper.gapIf(0, 7, 3));
        keeper.move(0, 3);
        keeper.move(7, 3);
        answers(6, () -> keeper.gapIf(0, 0, NONE));
        answers(6, () -> keeper.gapIf(0, 7, NONE));
    }

    @Says("Promise 22: host: 0 to 7; NONE for none")
    void gapIfOneWasMovedToTheFirstOrTheLastMachine() {
        Recorded keeper = byCore(4, 1, 1, 1, 1, 1, 1, 1, 1);
        answers(6, () -> keeper.gapIf(0, 3, 0));
        answers(6, () -> keeper.gapIf(0, 3, 7));
    }

    @Says("Promise 22: host: 0 to 7; NONE for none")
    void gapIfOneWasMovedToNone() {
        Recorded keeper = byCore(4, 1, 9, 8);
        keeper.move(1, 0);
        keeper.move(2, 0);
        answers(0, () -> keeper.gap(0));
        answers(9, () -> keeper.gapIf(0, 1, NONE));
        answers(8, () -> keeper.gapIf(0, 2, NONE));
        answers(0, () -> keeper.gapIf(0, 0, NONE));
        answers(0, () -> keeper.gapIf(0, 5, NONE));
    }

    @Says("Promise 22: Returns what the gap of a product would be if a machine was moved.")
    void gapIfOneWasMovedWhereItIs() {
        Recorded keeper = byCore(4, 1, 9, 8);
        keeper.move(1, 0);
        answers(8, () -> keeper.gap(0));
        answers(8, () -> keeper.gapIf(0, 1, 0));
    }

    @Says("Promise 22: Returns what the gap of a product would be if a machine was moved.")
    void gapIfMovesNothing() {
        Recorded keeper = byCore(4, 1, 9, 8);
        keeper.move(1, 0);
        LicenceKeeper asked = keeper.again();
        answers(0, () -> asked.gapIf(0, 2, 0));
        answers(9, () -> asked.gapIf(0, 1, 5));
        answers(17, () -> asked.gapIf(0, 1, 2));
        changedNothing(asked, keeper);
    }

    @Says("Promise 22: Throws IndexOutOfBoundsException if there is no such product, machine or host")
    void gapIfOfNoProduct() {
        refusesOutside(INDEX, 0, 3, byCore(4, 5), (k, product) -> k.gapIf(product, 1, 0));
        refusesOutside(INDEX, 0, 3, byCore(4, 5), (k, product) -> k.gapIf(product, 1, NONE));
    }

    @Says("Promise 22: Throws IndexOutOfBoundsException if there is no such product, machine or host")
    void gapIfNoMachineWasMoved() {
        refusesOutside(INDEX, 0, 7, byCore(4, 5), (k, machine) -> k.gapIf(0, machine, 1));
        refusesOutside(INDEX, 0, 7, byCore(4, 5), (k, machine) -> k.gapIf(0, machine, NONE));
    }

    @Says("Promise 22: Throws IndexOutOfBoundsException if there is no such product, machine or host")
    void gapIfOneWasMovedToNoMachine() {
        refusesOutside(INDEX, NONE, 7, byCore(4, 5), (k, host) -> k.gapIf(0, 1, host));
    }

    @Says("Promise 22: Throws IllegalArgumentException if machine and host are the same")
    void gapIfOneWasMovedToItself() {
        for (int machine = 0; machine < 8; machine++) {
            int m = machine;
            refuses(ARGUMENT, byCore(4, 5), k -> k.gapIf(0, m, m));
        }
    }

    @Says("Promise 22: Throws IllegalStateException if move() would throw it")
    void gapIfAHostWasMovedToAHost() {
        for (int machine = 0; machine < 8; machine++) {
            int host = machine;
            Recorded keeper = byCore(4, 5, 6);
            keeper.move((host + 1) % 8, host);
            refuses(STATE, keeper, k -> k.gapIf(0, host, (host + 2) % 8));
            refuses(STATE, keeper, k -> k.gapIf(0, host, (host + 1) % 8));
        }
    }

    @Says("Promise 22: Throws IllegalStateException if move() would throw it")
    void gapIfOneWasMovedToAGuest() {
        for (int machine = 0; machine < 8; machine++) {
            int guest = machine;
            Recorded keeper = byCore(4, 5, 6);
            keeper.move(guest, (guest + 1) % 8);
            refuses(STATE, keeper, k -> k.gapIf(0, (guest + 2) % 8, guest));
            refuses(STATE, keeper, k -> k.gapIf(3, (guest + 7) % 8, guest));
        }
    }

    @Says("Promise 22: Throws IllegalStateException if move() would throw it")
    void gapIfAGuestWasMovedToAnotherHost() {
        Recorded keeper = byCore(4, 1, 9, 8);
        keeper.move(1, 0);
        keeper.move(3, 2);
        answers(17, () -> keeper.gapIf(0, 1, 2));
        answers(8, () -> keeper.gapIf(0, 3, 0));
    }

    @Says("Exceptions: If several apply, the one that is named first in the throws clause is thrown.")
    void gapIfSeveralApply() {
        Recorded keeper = byCore(4, 5, 6);
        keeper.move(1, 0);
        refusesOutside(INDEX, 0, 3, keeper, (k, product) -> k.gapIf(product, 0, 0));
        refusesOutside(INDEX, 0, 3, keeper, (k, product) -> k.gapIf(product, 0, 2));
        refusesOutside(INDEX, 0, 7, keeper, (k, machine) -> k.gapIf(0, machine, machine));
        refusesOutside(INDEX, 0, 7, keeper, (k, machine) -> k.gapIf(0, machine, 1));
        refusesOutside(INDEX, NONE, 7, keeper, (k, host) -> k.gapIf(0, 0, host));
        refuses(ARGUMENT, keeper, k -> k.gapIf(0, 0, 0));
        refuses(ARGUMENT, keeper, k -> k.gapIf(0, 1, 1));
    }

    // ---- spare

    @Says("Promise 23: right: its number")
    void spareOfTheFirstAndTheLastRight() {
        Recorded keeper = byDevice(3, 5, 6);
        for (int right = 1; right < 11; right++) {
            keeper.buy(1, DEVICE, right, 0);
        }
        keeper.buy(2, CORE, 12, 0);
        answers(1, () -> keeper.spare(0));
        answers(1, () -> keeper.spare(1));
        answers(12, () -> keeper.spare(11));
    }

    @Says("Promise 23: Returns the greatest such part of its count.")
    void spareIsNothing() {
        answers(0, () -> byDevice(1, 5).spare(0));
        answers(0, () -> byDevice(8, 1, 1, 1, 1, 1, 1, 1, 1).spare(0));
        answers(0, () -> byCore(4, 1).spare(0));
        answers(0, () -> byCore(64, 64).spare(0));
    }

    @Says("Promise 23: Returns the greatest such part of its count.")
    void spareIsAll() {
        answers(500, () -> byDevice(500).spare(0));
        answers(3, () -> byCore(3, 1).spare(0));
        answers(63, () -> byCore(63, 64).spare(0));
        Recorded helped = byCore(9, 5, 4);
        helped.buy(0, DEVICE, 2, 0);
        answers(9, () -> helped.spare(0));
        answers(2, () -> helped.spare(1));
    }

    @Says("Promise 23: Returns the greatest such part of its count.")
    void spareIsWhatIsOver() {
        answers(499, () -> byDevice(500, 5).spare(0));
        answers(3, () -> byCore(7, 1).spare(0));
        answers(1, () -> byCore(10, 6, 9).spare(0));
        answers(9, () -> byCore(24, 6, 9).spare(0));
    }

    @Says("Promise 23: Returns how much of a right could be lent out and the gap of its product would stay as it is.")
    void spareCanBeLentOutAndOneMoreCannot() {
        Recorded keeper = byCore(13, 6, 5, 9);
        answers(2, () -> keeper.spare(0));
        answers(9, () -> keeper.gap(0));
        keeper.lend(0, 2);
        answers(9, () -> keeper.gap(0));
        answers(0, () -> keeper.spare(0));
        keeper.lend(0, 1);
        answers(11, () -> keeper.gap(0));
        answers(1, () -> keeper.spare(0));
    }

    @Says("Promise 23: Returns how much of a right could be lent out and the gap of its product would stay as it is.")
    void spareOfAnEmptyRight() {
        Recorded keeper = byCore(9, 5, 4);
        keeper.lend(0, 9);
        answers(0, () -> keeper.spare(0));
    }

    @Says("Promise 23: Returns how much of a right could be lent out and the gap of its product would stay as it is.")
    void spareForThePrice0() {
        Recorded keeper = byCore(9, 5, 4);
        keeper.setPrice(0, 0);
        answers(9, () -> keeper.spare(0));
    }

    @Says("Promise 23: Returns how much of a right could be lent out and the gap of its product would stay as it is.")
    void spareForTheSameGapWithOtherMachines() {
        Recorded keeper = byCore(8, 4, 4, 8);
        keeper.move(0, 3);
        keeper.move(1, 3);
        answers(3, () -> keeper.uncovered(0));
        answers(4, () -> keeper.spare(0));
    }

    @Says("Promise 23: Returns how much of a right could be lent out and the gap of its product would stay as it is.")
    void spareWhenOthersAreLaidOtherwise() {
        Recorded keeper = byCore(6, 6, 5);
        keeper.buy(0, DEVICE, 1, 0);
        answers(1, () -> keeper.spare(0));
        answers(0, () -> keeper.spare(1));
    }

    @Says("Promise 23: Throws IndexOutOfBoundsException if there is no such right")
    void spareOfNoRight() {
        refusesOutside(INDEX, 0, -1, new Recorded(), LicenceKeeper::spare);
        refusesOutside(INDEX, 0, 0, byCore(4, 5), LicenceKeeper::spare);
    }

    @Says("Exceptions: A call that throws an exception changes nothing.")
    void refusedQuestionsChangeNothing() {
        Recorded keeper = byDevice(1, 5, 6);
        keeper.buy(0, DEVICE, 1, 0);
        keeper.buy(0, DEVICE, 1, 0);
        keeper.move(1, 0);
        LicenceKeeper called = keeper.again();
        Check.outcome(() -> called.gap(4));
        Check.outcome(() -> called.uncovered(4));
        Check.outcome(() -> called.gapByAll(0));
        Check.outcome(() -> called.gapIf(0, 0, 2));
        Check.outcome(() -> called.gapIf(0, 2, 1));
        Check.outcome(() -> called.gapIf(0, 2, 2));
        Check.outcome(() -> called.spare(3));
        Check.outcome(() -> called.covers(0, 8));
        changedNothing(called, keeper);
    }
}
