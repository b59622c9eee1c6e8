import java.util.EnumSet;
import java.util.List;
import java.util.Set;

/** Parts of what can be found out about an insurer; together they tell two states apart. Some destroy the state. */
enum Probe {
    POLICIES {
        @Override
        String of(Insurer insurer) {
            Answers answers = new Answers(insurer).all("day", "cash", "policyCount", "meanSum", "outcomes", "greatestLoss");
            int count = insurer.number("policyCount");
            for (int i = 0; i < count; i++) {
                int id = insurer.number("policyAt", i);
                answers.add("policyByLoad", i);
                for (String name : List.of("sumOf", "sumLeft", "riskOf", "premiumOf", "endOf", "isActive")) {
                    answers.add(name, id);
                }
            }
            for (int loss : new int[] {0, 1, 2, 5, 9, 14, 20, 30, 60, 120, 239, 240}) {
                answers.add("outcomesWithin", loss).add("outcomesWithinBySets", loss);
            }
            return answers.toString();
        }
    },

    CLAIMS {
        @Override
        String of(Insurer insurer) {
            Answers answers = new Answers(insurer).all("claimCount", "paidShare", "treatyCount");
            int claims = insurer.number("claimCount");
            int treaties = insurer.number("treatyCount");
            for (int i = 0; i < claims; i++) {
                int id = insurer.number("claimAt", i);
                answers.add("claimByUnpaid", i);
                for (String name : List.of("policyOf", "causeOf", "amountOf", "paidOf", "ownPart", "recovered")) {
                    answers.add(name, id);
                }
                for (int treaty = 0; treaty < treaties; treaty++) {
                    answers.add("borneBy", id, treaty);
                }
            }
            for (int treaty = 0; treaty < treaties; treaty++) {
                answers.add("startOf", treaty).add("capacityOf", treaty);
            }
            for (int amount : new int[] {1, 2, 3, 5, 8, 12, 20, 29, 30}) {
                answers.add("borne", amount).add("borneByCoins", amount);
            }
            return answers.toString();
        }
    },

    TRIANGLE {
        @Override
        String of(Insurer insurer) {
            Answers answers = new Answers(insurer).all("day", "lastPeriod", "reserve");
            for (int period = 0; period <= 5; period++) {
                for (int delay = 0; delay <= 5; delay++) {
                    answers.add("paidIn", period, delay);
                }
                answers.add("projected", period).add("projectedByRecursion", period);
            }
            return answers.toString();
        }
    },

    OFFERS {
        @Override
        String of(Insurer insurer) {
            Answers answers = new Answers(insurer).all("offerCount");
            for (int first : new int[] {0, 1, 4, 9, 13, 50, 99}) {
                for (int days : new int[] {1, 2, 5, 10, 50}) {
                    answers.add("cheapestCover", first, first + days - 1);
                    answers.add("cheapestCoverBySets", first, first + days - 1);
                }
            }
            return answers.toString();
        }
    },

    OFFER_PRICES {
        @Override
        String of(Insurer insurer) {
            return new Answers(insurer).repeat(8, "dropOffer", 0).toString();
        }
    },

    OUTPUT {
        @Override
        String of(Insurer insurer) {
            Answers answers = new Answers(insurer);
            for (int i = 0; i < 20; i++) {
                answers.add("outputAt", i);
            }
            return answers.toString();
        }
    },

    BUFFER {
        @Override
        String of(Insurer insurer) {
            return new Answers(insurer).add("type", '~').add("type", '~').add("runScript").add("errorPosition").toString();
        }
    },

    ERROR_POSITION {
        @Override
        String of(Insurer insurer) {
            return new Answers(insurer).add("errorPosition").toString();
        }
    },

    FAILED_COMMAND {
        @Override
        String of(Insurer insurer) {
            return new Answers(insurer).add("failedCommand").toString();
        }
    },

    UNDO {
        @Override
        String of(Insurer insurer) {
            Answers answers = new Answers(insurer);
            for (int i = 0; i < 10; i++) {
                answers.add("undo").brief();
            }
            return answers.toString();
        }
    },

    SNAPSHOT {
        @Override
        String of(Insurer insurer) {
            boolean isSaved = !insurer.ask("restore").startsWith("throws ");
            return isSaved ? new Answers(insurer).brief().add("undo").brief().add("restore").brief().toString() : "none";
        }
    },

    PAYMENTS {
        @Override
        String of(Insurer insurer) {
            Answers answers = new Answers(insurer);
            int claims = insurer.number("claimCount");
            for (int i = 0; i < claims; i++) {
                int id = insurer.number("claimAt", i);
                answers.add("pay", id, 1).add("paidOf", id).add("cash");
            }
            for (int period = 0; period <= 5; period++) {
                for (int delay = 0; delay <= 5; delay++) {
                    answers.add("paidIn", period, delay);
                }
            }
            return answers.toString();
        }
    },

    NEXT_IDS {
        @Override
        String of(Insurer insurer) {
            Answers answers = new Answers(insurer);
            int claims = insurer.number("claimCount");
            for (int i = claims - 1; i >= 0; i--) {
                answers.add("withdrawClaim", insurer.number("claimAt", i));
            }
            int policies = insurer.number("policyCount");
            for (int i = policies - 1; i >= 0; i--) {
                answers.add("endPolicy", insurer.number("policyAt", i));
            }
            answers.add("insure", 30, 8, 60);
            int id = insurer.number("policyAt", insurer.number("policyCount") - 1);
            return answers.add("claim", id, 'r', 30).brief().toString();
        }
    };

    /** Goes through the questions, and through the changes that a probe makes. */
    abstract String of(Insurer insurer);

    static Set<Probe> allBut(Probe... others) {
        Set<Probe> probes = EnumSet.allOf(Probe.class);
        probes.removeAll(List.of(others));
        return probes;
    }

    /** Whether it tells of the state that undo and the snapshot cover. */
    boolean isOfState() {
        return switch (this) {
            case POLICIES, CLAIMS, TRIANGLE, OFFERS, OFFER_PRICES, PAYMENTS, NEXT_IDS -> true;
            default -> false;
        };
    }

    private static final class Answers {
        private final Insurer insurer;
        private final StringBuilder text = new StringBuilder();

        Answers(Insurer insurer) {
            this.insurer = insurer;
        }

        Answers add(String name, Object... arguments) {
            Call call = Call.of(name, arguments);
            text.append(call).append(" = ").append(insurer.answer(call)).append('\n');
            return this;
        }

        Answers all(String... names) {
            for (String name : names) {
                add(name);
            }
            return this;
        }

        Answers repeat(int times, String name, Object... arguments) {
            for (int i = 0; i < times; i++) {
                add(name, arguments);
            }
            return this;
        }

        /** Enough to notice which of the neighbouring states this is. */
        Answers brief() {
            all("day", "cash", "policyCount", "claimCount", "treatyCount", "offerCount", "reserve", "meanSum", "paidShare");
            add("capacityOf", 0).add("capacityOf", 1).add("capacityOf", 2).add("capacityOf", 3);
            return add("policyAt", 0).add("claimAt", 0).add("startOf", 0).add("cheapestCover", 0, 0);
        }

        @Override
        public String toString() {
            return text.toString();
        }
    }
}
