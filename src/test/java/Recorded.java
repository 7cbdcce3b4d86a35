import java.util.ArrayList;
import java.util.List;

/**
 * A keeper whose changes are kept, so that as many keepers as wanted can be made that are in its state: a keeper
 * promises nothing after its 512th call, and to look at all of its state takes some hundreds.
 */
final class Recorded {
    /** A call on a keeper. */
    interface Step {
        int on(LicenceKeeper keeper);
    }

    private final LicenceKeeper keeper = new LicenceKeeper();
    private final List<Step> steps = new ArrayList<>();

    /** A keeper with the product 0 found in version 1 on as many machines, with these cores. */
    static Recorded withCores(int... cores) {
        Recorded keeper = new Recorded();
        for (int machine = 0; machine < cores.length; machine++) {
            keeper.setCores(machine, cores[machine]);
            keeper.find(machine, 0, 1);
        }
        return keeper;
    }

    LicenceKeeper again() {
        LicenceKeeper fresh = new LicenceKeeper();
        for (Step step : steps) {
            step.on(fresh);
        }
        return fresh;
    }

    private int change(Step step) {
        int answer = step.on(keeper);
        steps.add(step);
        return answer;
    }

    int setCores(int machine, int cores) {
        return change(k -> k.setCores(machine, cores));
    }

    int move(int machine, int host) {
        return change(k -> k.move(machine, host));
    }

    int find(int machine, int product, int version) {
        return change(k -> k.find(machine, product, version));
    }

    int setPrice(int product, int price) {
        return change(k -> k.setPrice(product, price));
    }

    int release(int product) {
        return change(k -> k.release(product));
    }

    int buy(int product, int measure, int count, int care) {
        return change(k -> k.buy(product, measure, count, care));
    }

    int upgrade(int right, int count) {
        return change(k -> k.upgrade(right, count));
    }

    int lend(int right, int count) {
        return change(k -> k.lend(right, count));
    }

    int pass(int days) {
        return change(k -> k.pass(days));
    }

    int today() {
        return keeper.today();
    }

    int rights() {
        return keeper.rights();
    }

    int countOf(int right) {
        return keeper.countOf(right);
    }

    int versionOf(int right) {
        return keeper.versionOf(right);
    }

    int latest(int product) {
        return keeper.latest(product);
    }

    int hostOf(int machine) {
        return keeper.hostOf(machine);
    }

    int weight(int machine, int product) {
        return keeper.weight(machine, product);
    }

    int covers(int right, int machine) {
        return keeper.covers(right, machine);
    }

    int gap(int product) {
        return keeper.gap(product);
    }

    int uncovered(int product) {
        return keeper.uncovered(product);
    }

    int gapByAll(int product) {
        return keeper.gapByAll(product);
    }

    int gapIf(int product, int machine, int host) {
        return keeper.gapIf(product, machine, host);
    }

    int spare(int right) {
        return keeper.spare(right);
    }
}
