/**
 * All that can be found out about a house, also by calls that change it: it can't be used any more behind that. Two
 * houses of which one has had a call that was refused have to tell the same.
 */
final class Probe {
    private interface Call {
        long run();
    }

    private final ReviewForge forge;
    private final StringBuilder text = new StringBuilder();

    private Probe(ReviewForge itsForge) {
        forge = itsForge;
    }

    static String of(ReviewForge forge) {
        Probe probe = new Probe(forge);
        probe.text.append(Snapshot.of(forge));
        probe.settings();
        probe.ownerLists();
        probe.votes();
        probe.days();
        probe.flags();
        probe.fixes();
        probe.drafts();
        probe.rules();
        probe.landing();
        probe.text.append(Snapshot.of(forge));
        return probe.text.toString();
    }

    private void tell(String name, Call call) {
        text.append('\n').append(name).append(' ');
        try {
            text.append(call.run());
        } catch (RuntimeException thrown) {
            text.append(Expect.nameOf(thrown));
        }
    }

    private void settings() {
        for (int change = 0; change < forge.changes(); change++) {
            int its = change;
            tell("topic", () -> forge.setTopic(its, ReviewForge.NONE));
        }
        for (int repository = 0; repository < 2; repository++) {
            int its = repository;
            tell("way", () -> forge.setWay(its, ReviewForge.PICK));
            for (int person = 0; person < 6; person++) {
                int watcher = person;
                tell("watch", () -> forge.watch(watcher, its, false) ? 1 : 0);
            }
        }
    }

    /** From above to below, so that it is seen what is cut. */
    private void ownerLists() {
        tell("last resort", () -> forge.setLastResort(0));
        int[] levels = {6, 4, 5, 0, 1, 2, 3};
        for (int repository = 0; repository < 2; repository++) {
            int its = repository;
            for (int level : levels) {
                tell("people", () -> forge.setOwners(its, level, level == 6 ? 32 : level > 3 ? 16 : 8, false));
                for (int file = 0; file < 4; file++) {
                    int asked = file;
                    tell("owners", () -> forge.owners(its, asked));
                }
            }
            tell("include", () -> forge.setInclude(its, 0, false) ? 1 : 0);
            tell("include", () -> forge.setInclude(its, 1, false) ? 1 : 0);
        }
    }

    private void votes() {
        int[] copied = {31, 0};
        for (int values : copied) {
            for (int label = 0; label < 2; label++) {
                for (int kind = 0; kind < 3; kind++) {
                    int itsLabel = label;
                    int itsKind = kind;
                    tell("copied", () -> forge.setCopied(itsLabel, itsKind, values));
                }
            }
            for (int change = 0; change < forge.changes(); change++) {
                for (int set = 0; set < forge.sets(change); set++) {
                    for (int person = 0; person < 6; person++) {
                        text.append(' ').append(forge.worth(person, change, set, ReviewForge.REVIEW));
                        text.append(' ').append(forge.worth(person, change, set, ReviewForge.VERIFY));
                    }
                }
            }
        }
    }

    /** Day by day, so that it is seen when the latest act was. */
    private void days() {
        for (int day = 0; day < 30; day++) {
            tell("advance", () -> forge.advance(1));
            for (int change = 0; change < forge.changes(); change++) {
                text.append(' ').append(forge.stateOf(change));
            }
        }
        for (int person = 0; person < 6; person++) {
            text.append(" mails ").append(forge.mails(person));
        }
    }

    private void flags() {
        for (int change = 0; change < forge.changes(); change++) {
            int its = change;
            tell("restore", () -> forge.restore(its));
            tell("flags", () -> forge.setFlags(its, false, false));
            text.append(" turn ").append(forge.whoseTurn(change));
        }
    }

    private void fixes() {
        for (int change = 0; change < forge.changes(); change++) {
            int its = change;
            for (int fix = 0; fix < 31; fix++) {
                int asked = 1 << fix;
                tell("fix", () -> forge.takeFixes(its, asked));
            }
            tell("find", () -> forge.find(its, 0, 0, 0, 0, 5));
        }
    }

    private void drafts() {
        for (int change = 0; change < forge.changes(); change++) {
            for (int person = 0; person < 6; person++) {
                int its = change;
                int who = person;
                tell("publish", () -> forge.publish(who, its));
                text.append(" unresolved ").append(forge.unresolved(change));
            }
        }
        for (int comment = 0; comment < 60; comment++) {
            int its = comment;
            tell("answer", () -> forge.answer(0, its, true));
        }
    }

    private void rules() {
        tell("rule", () -> forge.addRule(8, 0, 0));
        tell("rule", () -> forge.addRule(15, 256, 0));
        for (int rule = 0; rule < 20; rule++) {
            int its = rule;
            tell("drop", () -> forge.dropRule(its));
        }
    }

    private void landing() {
        for (int change = 0; change < forge.changes(); change++) {
            int its = change;
            tell("rebase", () -> forge.rebase(0, its));
            tell("land", () -> forge.land(0, its));
        }
        tell("rule", () -> forge.addRule(15, 0, 0));
        for (int change = 0; change < forge.changes(); change++) {
            int its = change;
            tell("land", () -> forge.land(0, its));
        }
    }
}
