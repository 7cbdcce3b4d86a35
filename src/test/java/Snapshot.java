/** All that a keeper answers, as one text. */
final class Snapshot {
    private Snapshot() {
    }

    /** What it answers to questions: some 220 calls at the most, none of which changes it. */
    static String ofQuestions(LicenceKeeper keeper) {
        StringBuilder text = new StringBuilder();
        text.append("day ").append(keeper.today()).append(" rights ").append(keeper.rights());
        for (int machine = 0; machine < 8; machine++) {
            text.append("\nmachine ").append(machine).append(" on ").append(keeper.hostOf(machine));
            for (int product = 0; product < 4; product++) {
                text.append(' ').append(keeper.weight(machine, product));
            }
        }
        for (int product = 0; product < 4; product++) {
            addProduct(text, keeper, product);
        }
        for (int right = 0; right < keeper.rights(); right++) {
            text.append("\nright ").append(right).append(": ").append(keeper.countOf(right));
            text.append(' ').append(keeper.versionOf(right)).append(' ').append(keeper.spare(right));
            for (int machine = 0; machine < 8; machine++) {
                text.append(' ').append(keeper.covers(right, machine));
            }
        }
        return text.toString();
    }

    /** The same, and what only changes tell: the keeper is of no use any more, some 310 calls at the most. */
    static String ofAll(LicenceKeeper keeper) {
        StringBuilder text = new StringBuilder(ofQuestions(keeper));
        for (int machine = 0; machine < 8; machine++) {
            text.append("\nmachine ").append(machine).append(" has ").append(keeper.setCores(machine, 1));
            for (int product = 0; product < 4; product++) {
                text.append(' ').append(keeper.find(machine, product, 0));
            }
        }
        for (int right = 0; right < keeper.rights(); right++) {
            text.append("\nlent out ").append(keeper.lend(right, 0));
        }
        for (int product = 0; product < 4; product++) {
            int p = product;
            text.append("\nprice ").append(keeper.setPrice(product, 1));
            text.append(" renewed ").append(Check.outcome(() -> keeper.release(p)));
        }
        return text.toString();
    }

    private static void addProduct(StringBuilder text, LicenceKeeper keeper, int product) {
        text.append("\nproduct ").append(product).append(": ").append(keeper.latest(product));
        text.append(' ').append(keeper.gap(product)).append(' ').append(keeper.uncovered(product));
        text.append(' ').append(Check.outcome(() -> keeper.gapByAll(product)));
        for (int machine = 0; machine < 8; machine++) {
            text.append(' ').append(keeper.gapIf(product, machine, LicenceKeeper.NONE));
        }
    }
}
