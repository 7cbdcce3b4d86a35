/** The edges of the promises 5 to 10, and of the terms on days and on how many rights there are. */
public final class ProductEdgeTests extends BySentence {
    public static void main(String[] args) {
        new ProductEdgeTests().runAll();
    }

    /** A keeper with as many rights of the product 1, which has version 2; all of them are of version 1. */
    private static Recorded withRights(int rights) {
        Recorded keeper = new Recorded();
        for (int right = 0; right < rights; right++) {
            keeper.buy(1, DEVICE, 5, 0);
        }
        keeper.release(1);
        return keeper;
    }

    private static void passMany(Recorded keeper, int days) {
        for (int left = days; left > 0; left -= 400) {
            keeper.pass(Math.min(400, left));
        }
    }

    // ---- setPrice

    @Says("Promise 5: product: 0 to 3")
    void setPriceOfTheFirstAndTheLastProduct() {
        LicenceKeeper keeper = new LicenceKeeper();
        answers(1, () -> keeper.setPrice(0, 10));
        answers(1, () -> keeper.setPrice(3, 13));
        answers(10, () -> keeper.setPrice(0, 1));
        answers(13, () -> keeper.setPrice(3, 1));
    }

    @Says("Promise 5: price: 0 to 1000")
    void setPriceTakes0And1000() {
        Recorded keeper = Recorded.withCores(3);
        answers(1, () -> keeper.setPrice(0, 0));
        answers(0, () -> keeper.weight(0, 0));
        answers(0, () -> keeper.setPrice(0, 1000));
        answers(3000, () -> keeper.weight(0, 0));
        answers(1000, () -> keeper.setPrice(0, 1));
    }

    @Says("Promise 5: Returns the price before.")
    void setPriceAnswersWhatWasBefore() {
        LicenceKeeper keeper = new LicenceKeeper();
        answers(1, () -> keeper.setPrice(2, 7));
        answers(7, () -> keeper.setPrice(2, 7));
        answers(7, () -> keeper.setPrice(2, 0));
        answers(0, () -> keeper.setPrice(2, 8));
        answers(1, () -> keeper.setPrice(1, 8));
    }

    @Says("Promise 5: Throws IndexOutOfBoundsException if there is no such product")
    void setPriceOfNoProduct() {
        refusesOutside(INDEX, 0, 3, new Recorded(), (k, product) -> k.setPrice(product, 2));
    }

    @Says("Promise 5: Throws IllegalArgumentException if price is out of range")
    void setPriceTooLowOrTooHigh() {
        refusesOutside(ARGUMENT, 0, 1000, Recorded.withCores(3), (k, price) -> k.setPrice(0, price));
    }

    @Says("Exceptions: If several apply, the one that is named first in the throws clause is thrown.")
    void setPriceOfNoProductAndOutOfRange() {
        refusesOutside(INDEX, 0, 3, new Recorded(), (k, product) -> k.setPrice(product, -1));
        refusesOutside(INDEX, 0, 3, new Recorded(), (k, product) -> k.setPrice(product, 1001));
    }

    // ---- release

    @Says("Promise 6: product: 0 to 3")
    void releaseTheFirstAndTheLastProduct() {
        LicenceKeeper keeper = new LicenceKeeper();
        answers(0, () -> keeper.release(0));
        answers(0, () -> keeper.release(3));
        answers(0, () -> keeper.release(3));
        answers(2, () -> keeper.latest(0));
        answers(3, () -> keeper.latest(3));
        answers(1, () -> keeper.latest(1));
    }

    @Says("Promise 6: Returns how many rights have it by that.")
    void releaseAnswers0WithoutRights() {
        answers(0, () -> new LicenceKeeper().release(1));
        answers(0, () -> withRights(3).release(1));
    }

    @Says("Promise 6: Returns how many rights have it by that.")
    void releaseAnswers12ForAllRights() {
        LicenceKeeper keeper = new LicenceKeeper();
        for (int right = 0; right < 12; right++) {
            keeper.buy(2, right % 2, 1, 1);
        }
        answers(12, () -> keeper.release(2));
        answers(2, () -> keeper.versionOf(0));
        answers(2, () -> keeper.versionOf(11));
    }

    @Says("Promise 6: Returns how many rights have it by that.")
    void releaseLeavesRightsOfOtherProducts() {
        LicenceKeeper keeper = new LicenceKeeper();
        keeper.buy(0, DEVICE, 1, 9);
        keeper.buy(1, DEVICE, 1, 9);
        keeper.buy(2, DEVICE, 1, 9);
        answers(1, () -> keeper.release(1));
        answers(1, () -> keeper.versionOf(0));
        answers(2, () -> keeper.versionOf(1));
        answers(1, () -> keeper.versionOf(2));
    }

    @Says("Promise 6: Throws IndexOutOfBoundsException if there is no such product")
    void releaseNoProduct() {
        refusesOutside(INDEX, 0, 3, new Recorded(), LicenceKeeper::release);
    }

    @Says("Promise 6: Throws IllegalStateException if its latest version is 9")
    void releaseVersion9ButNot10() {
        Recorded keeper = new Recorded();
        keeper.buy(1, DEVICE, 1, 1);
        for (int version = 2; version <= 9; version++) {
            answers(1, () -> keeper.release(1));
        }
        answers(9, () -> keeper.latest(1));
        answers(9, () -> keeper.versionOf(0));
        refuses(STATE, keeper, k -> k.release(1));
        answers(0, () -> keeper.release(2));
    }

    @Says("Days: Today is day 0 at first.")
    void today0AtFirst() {
        LicenceKeeper keeper = new LicenceKeeper();
        answers(0, keeper::today);
        keeper.buy(0, DEVICE, 1, 1);
        answers(1, () -> keeper.release(0));
    }

    @Says("Days: When a new version of a product comes, its latest version is 1 more")
    void latestVersionIs1More() {
        LicenceKeeper keeper = new LicenceKeeper();
        for (int version = 1; version < 9; version++) {
            answers(version, () -> keeper.latest(1));
            keeper.release(1);
        }
        answers(9, () -> keeper.latest(1));
    }

    @Says("Days: all its rights with a last day of care that is today or later")
    void lastDayOfCareIsToday() {
        Recorded keeper = new Recorded();
        keeper.buy(0, DEVICE, 1, 5);
        keeper.pass(4);
        answers(1, () -> keeper.release(0));
        answers(2, () -> keeper.versionOf(0));
    }

    @Says("Days: all its rights with a last day of care that is today or later")
    void lastDayOfCareWasYesterday() {
        Recorded keeper = new Recorded();
        keeper.buy(0, DEVICE, 1, 5);
        keeper.pass(5);
        answers(0, () -> keeper.release(0));
        answers(1, () -> keeper.versionOf(0));
    }

    @Says("Days: all its rights with a last day of care that is today or later")
    void lastDayOfCareIsTomorrow() {
        Recorded keeper = new Recorded();
        keeper.buy(0, DEVICE, 1, 5);
        keeper.pass(3);
        answers(1, () -> keeper.release(0));
    }

    @Says("Days: all its rights with a last day of care that is today or later")
    void anEmptyRightIsOneOfAll() {
        Recorded keeper = new Recorded();
        keeper.buy(0, DEVICE, 3, 5);
        keeper.lend(0, 3);
        answers(1, () -> keeper.release(0));
        answers(2, () -> keeper.versionOf(0));
    }

    @Says("Days: and with the version that was the latest until then, have the new one")
    void onceLeftBehindARightStaysBehind() {
        Recorded keeper = new Recorded();
        keeper.buy(0, DEVICE, 1, 0);
        keeper.buy(0, DEVICE, 1, 1);
        answers(1, () -> keeper.release(0));
        answers(1, () -> keeper.release(0));
        answers(1, () -> keeper.versionOf(0));
        answers(3, () -> keeper.versionOf(1));
        keeper.pass(1);
        answers(0, () -> keeper.release(0));
        answers(3, () -> keeper.versionOf(1));
    }

    @Says("Exceptions: If several apply, the one that is named first in the throws clause is thrown.")
    void releaseNoProductWhenAllHaveVersion9() {
        Recorded keeper = new Recorded();
        for (int release = 0; release < 32; release++) {
            keeper.release(release % 4);
        }
        refusesOutside(INDEX, 0, 3, keeper, LicenceKeeper::release);
    }

    // ---- buy

    @Says("Promise 7: product: 0 to 3")
    void buyOfTheFirstAndTheLastProduct() {
        LicenceKeeper keeper = new LicenceKeeper();
        answers(0, () -> keeper.buy(0, DEVICE, 1, 1));
        answers(1, () -> keeper.buy(3, DEVICE, 1, 1));
        answers(1, () -> keeper.release(0));
        answers(1, () -> keeper.release(3));
    }

    @Says("Promise 7: measure: DEVICE or CORE")
    void buyByDeviceAndByCore() {
        Recorded keeper = Recorded.withCores(5, 5);
        keeper.move(1, 0);
        answers(0, () -> keeper.buy(0, DEVICE, 1, 1));
        answers(1, () -> keeper.buy(0, CORE, 1, 1));
        answers(1, () -> keeper.covers(0, 0));
        answers(3, () -> keeper.covers(1, 0));
    }

    @Says("Promise 7: count: 1 to 500")
    void buy1And500() {
        LicenceKeeper keeper = new LicenceKeeper();
        answers(0, () -> keeper.buy(0, DEVICE, 1, 1));
        answers(1, () -> keeper.buy(0, CORE, 500, 1));
        answers(1, () -> keeper.countOf(0));
        answers(500, () -> keeper.countOf(1));
    }

    @Says("Promise 7: care: 0 to 1000: for how many days from today on it has care; its last day of care is today and "
            + "these, less 1")
    void buyWithoutCare() {
        Recorded keeper = new Recorded();
        answers(0, () -> keeper.buy(0, DEVICE, 1, 0));
        answers(0, () -> keeper.release(0));
        answers(1, () -> keeper.versionOf(0));
        keeper.pass(7);
        answers(1, () -> keeper.buy(0, DEVICE, 1, 0));
        answers(0, () -> keeper.release(0));
    }

    @Says("Promise 7: care: 0 to 1000: for how many days from today on it has care; its last day of care is today and "
            + "these, less 1")
    void buyWithCareForToday() {
        Recorded keeper = new Recorded();
        keeper.pass(7);
        keeper.buy(0, DEVICE, 1, 1);
        answers(1, () -> keeper.release(0));
        keeper.pass(1);
        answers(0, () -> keeper.release(0));
    }

    @Says("Promise 7: care: 0 to 1000: for how many days from today on it has care; its last day of care is today and "
            + "these, less 1")
    void buyWithCareFor1000Days() {
        Recorded keeper = new Recorded();
        keeper.pass(7);
        answers(0, () -> keeper.buy(0, DEVICE, 1, 1000));
        passMany(keeper, 999);
        answers(1, () -> keeper.release(0));
        keeper.pass(1);
        answers(0, () -> keeper.release(0));
    }

    @Says("Promise 7: care: 0 to 1000: for how many days from today on it has care; its last day of care is today and "
            + "these, less 1")
    void buyOnTheLatestDayThatThereIs() {
        Recorded keeper = new Recorded();
        passMany(keeper, 505 * 400);
        keeper.buy(0, DEVICE, 1, 401);
        answers(1, () -> keeper.release(0));
        keeper.pass(400);
        answers(1, () -> keeper.release(0));
        keeper.pass(1);
        answers(0, () -> keeper.release(0));
    }

    @Says("Promise 7: Buys a right of the latest version of a product.")
    void buyOfTheLatestVersion() {
        LicenceKeeper keeper = new LicenceKeeper();
        keeper.buy(0, DEVICE, 1, 0);
        for (int version = 2; version <= 9; version++) {
            keeper.release(0);
        }
        keeper.buy(0, DEVICE, 1, 0);
        keeper.buy(1, DEVICE, 1, 0);
        answers(1, () -> keeper.versionOf(0));
        answers(9, () -> keeper.versionOf(1));
        answers(1, () -> keeper.versionOf(2));
    }

    @Says("Rights: There are up to 12 rights, numbered from 0")
    void buyAnswersTheNumbers0To11() {
        LicenceKeeper keeper = new LicenceKeeper();
        for (int right = 0; right < 12; right++) {
            int next = right;
            answers(next, () -> keeper.buy(next % 4, next % 2, next + 1, next));
        }
        answers(12, keeper::rights);
        answers(1, () -> keeper.countOf(0));
        answers(12, () -> keeper.countOf(11));
    }

    @Says("Promise 7: Throws IndexOutOfBoundsException if there is no such product")
    void buyOfNoProduct() {
        refusesOutside(INDEX, 0, 3, new Recorded(), (k, product) -> k.buy(product, DEVICE, 1, 1));
    }

    @Says("Promise 7: Throws IllegalArgumentException if measure, count or care is out of range")
    void buyByNoMeasure() {
        refusesOutside(ARGUMENT, 0, 1, new Recorded(), (k, measure) -> k.buy(0, measure, 1, 1));
    }

    @Says("Promise 7: Throws IllegalArgumentException if measure, count or care is out of range")
    void buyTooFewOrTooMany() {
        refusesOutside(ARGUMENT, 1, 500, new Recorded(), (k, count) -> k.buy(0, DEVICE, count, 1));
        refusesOutside(ARGUMENT, 1, 500, new Recorded(), (k, count) -> k.buy(0, CORE, count, 1));
    }

    @Says("Promise 7: Throws IllegalArgumentException if measure, count or care is out of range")
    void buyWithTooShortOrTooLongACare() {
        refusesOutside(ARGUMENT, 0, 1000, new Recorded(), (k, care) -> k.buy(0, DEVICE, 1, care));
    }

    @Says("Promise 7: Throws IllegalStateException if there are 12 rights")
    void buyWhenThereAre12Rights() {
        Recorded keeper = withRights(11);
        answers(11, () -> keeper.buy(0, DEVICE, 1, 1));
        refuses(STATE, keeper, k -> k.buy(0, DEVICE, 1, 1));
        refuses(STATE, keeper, k -> k.buy(3, CORE, 500, 1000));
    }

    @Says("Promise 7: Throws IllegalStateException if there are 12 rights")
    void buyWhenThereAre12RightsAndAllAreEmpty() {
        Recorded keeper = withRights(12);
        for (int right = 0; right < 12; right++) {
            keeper.lend(right, 5);
        }
        refuses(STATE, keeper, k -> k.buy(0, DEVICE, 1, 1));
    }

    @Says("Exceptions: If several apply, the one that is named first in the throws clause is thrown.")
    void buyOfNoProductAndMore() {
        refusesOutside(INDEX, 0, 3, new Recorded(), (k, product) -> k.buy(product, 2, 1, 1));
        refusesOutside(INDEX, 0, 3, new Recorded(), (k, product) -> k.buy(product, DEVICE, 0, 1));
        refusesOutside(INDEX, 0, 3, new Recorded(), (k, product) -> k.buy(product, DEVICE, 1, -1));
        refusesOutside(INDEX, 0, 3, withRights(12), (k, product) -> k.buy(product, DEVICE, 1, 1));
    }

    @Says("Exceptions: If several apply, the one that is named first in the throws clause is thrown.")
    void buyOutOfRangeWhenThereAre12Rights() {
        Recorded keeper = withRights(12);
        refusesOutside(ARGUMENT, 0, 1, keeper, (k, measure) -> k.buy(0, measure, 1, 1));
        refusesOutside(ARGUMENT, 1, 500, keeper, (k, count) -> k.buy(0, DEVICE, count, 1));
        refusesOutside(ARGUMENT, 0, 1000, keeper, (k, care) -> k.buy(0, DEVICE, 1, care));
    }

    // ---- upgrade

    @Says("Promise 8: right: its number")
    void upgradeTheFirstAndTheLastRight() {
        Recorded keeper = withRights(3);
        answers(3, () -> keeper.upgrade(2, 2));
        answers(4, () -> keeper.upgrade(0, 1));
        answers(4, () -> keeper.countOf(0));
        answers(5, () -> keeper.countOf(1));
        answers(3, () -> keeper.countOf(2));
    }

    @Says("Promise 8: count: 1 to 500")
    void upgrade1And500() {
        Recorded keeper = new Recorded();
        keeper.buy(0, DEVICE, 500, 0);
        keeper.buy(0, DEVICE, 500, 0);
        keeper.release(0);
        answers(2, () -> keeper.upgrade(0, 1));
        answers(499, () -> keeper.countOf(0));
        answers(1, () -> keeper.countOf(2));
        answers(3, () -> keeper.upgrade(1, 500));
        answers(0, () -> keeper.countOf(1));
        answers(500, () -> keeper.countOf(3));
    }

    @Says("Promise 8: there is a new right of the latest version of its product, with its measure and last day of care")
    void upgradeGivesTheLatestVersion() {
        Recorded keeper = withRights(1);
        keeper.release(1);
        keeper.release(1);
        keeper.release(2);
        keeper.upgrade(0, 2);
        answers(4, () -> keeper.versionOf(1));
        answers(1, () -> keeper.versionOf(0));
    }

    @Says("Promise 8: there is a new right of the latest version of its product, with its measure and last day of care")
    void upgradeKeepsTheMeasure() {
        Recorded keeper = Recorded.withCores(5, 5);
        keeper.move(1, 0);
        keeper.buy(0, DEVICE, 5, 0);
        keeper.buy(0, CORE, 5, 0);
        keeper.release(0);
        keeper.upgrade(0, 2);
        keeper.upgrade(1, 2);
        answers(1, () -> keeper.covers(2, 0));
        answers(3, () -> keeper.covers(3, 0));
    }

    @Says("Promise 8: there is a new right of the latest version of its product, with its measure and last day of care")
    void upgradeKeepsTheLastDayOfCare() {
        Recorded keeper = new Recorded();
        keeper.buy(1, DEVICE, 5, 3);
        keeper.pass(3);
        keeper.release(1);
        keeper.upgrade(0, 2);
        answers(0, () -> keeper.release(1));
        answers(2, () -> keeper.versionOf(1));
    }

    @Says("Promise 8: the count of the old one becomes less by as much as the new one has")
    void upgradeTakesFromTheOldOne() {
        Recorded keeper = withRights(1);
        answers(1, () -> keeper.upgrade(0, 2));
        answers(3, () -> keeper.countOf(0));
        answers(2, () -> keeper.countOf(1));
        answers(0, () -> keeper.lend(0, 0));
        answers(0, () -> keeper.lend(1, 0));
    }

    @Says("Promise 8: Throws IndexOutOfBoundsException if there is no such right")
    void upgradeNoRight() {
        refusesOutside(INDEX, 0, -1, new Recorded(), (k, right) -> k.upgrade(right, 1));
        refusesOutside(INDEX, 0, 2, withRights(3), (k, right) -> k.upgrade(right, 1));
        refusesOutside(INDEX, 0, 11, withRights(12), (k, right) -> k.upgrade(right, 1));
    }

    @Says("Promise 8: Throws IllegalArgumentException if count is out of range")
    void upgradeTooFewOrTooMany() {
        refusesOutside(ARGUMENT, 1, 500, withRights(1), (k, count) -> k.upgrade(0, count));
    }

    @Says("Promise 8: Throws IllegalStateException if the right has a lesser count, it is of the latest version, or "
            + "there are 12 rights")
    void upgradeMoreThanItsCount() {
        Recorded keeper = withRights(1);
        refuses(STATE, keeper, k -> k.upgrade(0, 6));
        refuses(STATE, keeper, k -> k.upgrade(0, 500));
        answers(1, () -> keeper.upgrade(0, 5));
        refuses(STATE, keeper, k -> k.upgrade(0, 1));
    }

    @Says("Promise 8: Throws IllegalStateException if the right has a lesser count, it is of the latest version, or "
            + "there are 12 rights")
    void upgradeWhatIsLentOut() {
        Recorded keeper = withRights(1);
        keeper.lend(0, 2);
        refuses(STATE, keeper, k -> k.upgrade(0, 4));
        answers(1, () -> keeper.upgrade(0, 3));
        answers(2, () -> keeper.lend(0, 0));
    }

    @Says("Promise 8: Throws IllegalStateException if the right has a lesser count, it is of the latest version, or "
            + "there are 12 rights")
    void upgradeOneOfTheLatestVersion() {
        Recorded keeper = new Recorded();
        keeper.buy(0, DEVICE, 5, 1);
        refuses(STATE, keeper, k -> k.upgrade(0, 1));
        keeper.release(0);
        refuses(STATE, keeper, k -> k.upgrade(0, 1));
        keeper.pass(1);
        keeper.release(1);
        refuses(STATE, keeper, k -> k.upgrade(0, 1));
        keeper.release(0);
        answers(1, () -> keeper.upgrade(0, 1));
        refuses(STATE, keeper, k -> k.upgrade(1, 1));
    }

    @Says("Promise 8: Throws IllegalStateException if the right has a lesser count, it is of the latest version, or "
            + "there are 12 rights")
    void upgradeWhenThereAre12Rights() {
        Recorded keeper = withRights(11);
        answers(11, () -> keeper.upgrade(0, 2));
        refuses(STATE, keeper, k -> k.upgrade(0, 3));
        refuses(STATE, keeper, k -> k.upgrade(1, 5));
    }

    @Says("Exceptions: If several apply, the one that is named first in the throws clause is thrown.")
    void upgradeNoRightOutOfRange() {
        refusesOutside(INDEX, 0, 2, withRights(3), (k, right) -> k.upgrade(right, 0));
        refusesOutside(INDEX, 0, 2, withRights(3), (k, right) -> k.upgrade(right, 501));
        refusesOutside(INDEX, 0, 11, withRights(12), (k, right) -> k.upgrade(right, 501));
    }

    @Says("Exceptions: If several apply, the one that is named first in the throws clause is thrown.")
    void upgradeOutOfRangeAndNotNow() {
        Recorded latest = new Recorded();
        latest.buy(0, DEVICE, 5, 1);
        refusesOutside(ARGUMENT, 1, 500, latest, (k, count) -> k.upgrade(0, count));
        refusesOutside(ARGUMENT, 1, 500, withRights(12), (k, count) -> k.upgrade(0, count));
    }

    // ---- lend

    @Says("Promise 9: right: its number")
    void lendOfTheFirstAndTheLastRight() {
        Recorded keeper = withRights(3);
        answers(1, () -> keeper.lend(0, 1));
        answers(2, () -> keeper.lend(2, 2));
        answers(4, () -> keeper.countOf(0));
        answers(5, () -> keeper.countOf(1));
        answers(3, () -> keeper.countOf(2));
    }

    @Says("Promise 9: count: -500 to 500: above 0 to lend out")
    void lend500AndTakeThemBack() {
        Recorded keeper = new Recorded();
        keeper.buy(0, DEVICE, 500, 0);
        answers(500, () -> keeper.lend(0, 500));
        answers(0, () -> keeper.countOf(0));
        answers(0, () -> keeper.lend(0, -500));
        answers(500, () -> keeper.countOf(0));
    }

    @Says("Promise 9: count: -500 to 500: above 0 to lend out")
    void lend0() {
        Recorded keeper = withRights(1);
        answers(0, () -> keeper.lend(0, 0));
        answers(5, () -> keeper.lend(0, 5));
        answers(5, () -> keeper.lend(0, 0));
        answers(0, () -> keeper.countOf(0));
    }

    @Says("Promise 9: Returns how much of it is lent out then.")
    void lendAnswersAllThatIsLentOut() {
        Recorded keeper = withRights(2);
        answers(2, () -> keeper.lend(0, 2));
        answers(3, () -> keeper.lend(0, 1));
        answers(1, () -> keeper.lend(1, 1));
        answers(2, () -> keeper.lend(0, -1));
        answers(0, () -> keeper.lend(0, -2));
    }

    @Says("Promise 9: Lends a part of a right out to others, or takes it back: its count becomes less or greater by that")
    void lendTakesBackAfterTheRestWasUpgraded() {
        Recorded keeper = withRights(1);
        keeper.lend(0, 2);
        keeper.upgrade(0, 3);
        answers(0, () -> keeper.countOf(0));
        answers(0, () -> keeper.lend(0, -2));
        answers(2, () -> keeper.countOf(0));
        answers(3, () -> keeper.countOf(1));
    }

    @Says("Promise 9: Throws IndexOutOfBoundsException if there is no such right")
    void lendNoRight() {
        refusesOutside(INDEX, 0, -1, new Recorded(), (k, right) -> k.lend(right, 0));
        refusesOutside(INDEX, 0, 2, withRights(3), (k, right) -> k.lend(right, 0));
        refusesOutside(INDEX, 0, 11, withRights(12), (k, right) -> k.lend(right, 1));
    }

    @Says("Promise 9: Throws IllegalArgumentException if count is out of range")
    void lendTooManyOrTakeBackTooMany() {
        Recorded keeper = new Recorded();
        keeper.buy(0, DEVICE, 500, 0);
        refusesOutside(ARGUMENT, -500, 500, keeper, (k, count) -> k.lend(0, count));
        keeper.lend(0, 500);
        refusesOutside(ARGUMENT, -500, 500, keeper, (k, count) -> k.lend(0, count));
    }

    @Says("Promise 9: Throws IllegalStateException if its count is less than that, or less is lent out than comes back")
    void lendMoreThanItsCount() {
        Recorded keeper = withRights(2);
        refuses(STATE, keeper, k -> k.lend(0, 6));
        refuses(STATE, keeper, k -> k.lend(0, 500));
        answers(5, () -> keeper.lend(0, 5));
        refuses(STATE, keeper, k -> k.lend(0, 1));
        keeper.upgrade(1, 5);
        refuses(STATE, keeper, k -> k.lend(1, 1));
    }

    @Says("Promise 9: Throws IllegalStateException if its count is less than that, or less is lent out than comes back")
    void lendTakesBackMoreThanIsLentOut() {
        Recorded keeper = withRights(2);
        refuses(STATE, keeper, k -> k.lend(0, -1));
        keeper.lend(0, 3);
        refuses(STATE, keeper, k -> k.lend(0, -4));
        refuses(STATE, keeper, k -> k.lend(0, -500));
        refuses(STATE, keeper, k -> k.lend(1, -1));
        answers(0, () -> keeper.lend(0, -3));
        refuses(STATE, keeper, k -> k.lend(0, -1));
    }

    @Says("Exceptions: If several apply, the one that is named first in the throws clause is thrown.")
    void lendNoRightOutOfRange() {
        refusesOutside(INDEX, 0, 2, withRights(3), (k, right) -> k.lend(right, 501));
        refusesOutside(INDEX, 0, 2, withRights(3), (k, right) -> k.lend(right, -501));
    }

    @Says("Exceptions: If several apply, the one that is named first in the throws clause is thrown.")
    void lendOutOfRangeMoreThanItsCount() {
        refusesOutside(ARGUMENT, -500, 500, withRights(1), (k, count) -> k.lend(0, count));
    }

    // ---- pass

    @Says("Promise 10: days: 1 to 400")
    void pass1And400() {
        LicenceKeeper keeper = new LicenceKeeper();
        answers(1, () -> keeper.pass(1));
        answers(401, () -> keeper.pass(400));
        answers(401, keeper::today);
    }

    @Says("Promise 10: Returns today then.")
    void passAnswersTodayOfTheLongestRun() {
        LicenceKeeper keeper = new LicenceKeeper();
        for (int call = 1; call <= 511; call++) {
            keeper.pass(400);
        }
        answers(512 * 400, () -> keeper.pass(400));
    }

    @Says("Promise 10: Throws IllegalArgumentException if days is out of range")
    void passTooFewOrTooManyDays() {
        Recorded keeper = new Recorded();
        refusesOutside(ARGUMENT, 1, 400, keeper, LicenceKeeper::pass);
        keeper.pass(400);
        refusesOutside(ARGUMENT, 1, 400, keeper, LicenceKeeper::pass);
    }

    @Says("Exceptions: A call that throws an exception changes nothing.")
    void refusedChangesOfProductsAndRightsChangeNothing() {
        Recorded keeper = withRights(11);
        keeper.buy(2, CORE, 9, 9);
        keeper.lend(0, 2);
        for (int version = 2; version <= 9; version++) {
            keeper.release(2);
        }
        LicenceKeeper called = keeper.again();
        Check.outcome(() -> called.setPrice(2, 1001));
        Check.outcome(() -> called.release(2));
        Check.outcome(() -> called.buy(2, CORE, 4, 4));
        Check.outcome(() -> called.upgrade(0, 3));
        Check.outcome(() -> called.upgrade(0, 4));
        Check.outcome(() -> called.upgrade(11, 1));
        Check.outcome(() -> called.lend(0, 4));
        Check.outcome(() -> called.lend(0, -3));
        Check.outcome(() -> called.pass(401));
        Check.outcome(() -> called.pass(0));
        changedNothing(called, keeper);
    }
}
