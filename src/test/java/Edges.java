/** What holds of each call that asks about a tower or a trader, at the edges of their numbers. */
final class Edges {
    interface Asked {
        Object of(BellHush market, int index);
    }

    private final Checks checks;

    Edges(Checks checks) {
        this.checks = checks;
    }

    void noSuchTower(String name, Asked asked) {
        Script traders = new Script().traders(6);
        refused(name + " of 0 in a new market", new Script(), asked, 0);
        refused(name + " of 0 without towers", traders, asked, 0);
        for (int count : new int[] {1, 2, 8}) {
            Script script = new Script().towers(count, 9, 20, 7).traders(2);
            for (int tower = 0; tower < count; tower++) {
                answered(name + " of " + tower + " of " + count, script, asked, tower);
            }
            refused(name + " of -1 of " + count, script, asked, -1);
            refused(name + " of " + count + " of " + count, script, asked, count);
            farOff(name, script, asked);
        }
    }

    void noSuchTrader(String name, Asked asked) {
        Script towers = new Script().towers(8, 9, 20, 7);
        refused(name + " of 0 in a new market", new Script(), asked, 0);
        refused(name + " of 0 without traders", towers, asked, 0);
        for (int count : new int[] {1, 2, 6}) {
            Script script = new Script().towers(2, 9, 20, 7).traders(count);
            for (int trader = 0; trader < count; trader++) {
                answered(name + " of " + trader + " of " + count, script, asked, trader);
            }
            refused(name + " of -1 of " + count, script, asked, -1);
            refused(name + " of " + count + " of " + count, script, asked, count);
            farOff(name, script, asked);
        }
    }

    private void farOff(String name, Script script, Asked asked) {
        refused(name + " of the least int", script, asked, Integer.MIN_VALUE);
        refused(name + " of the greatest int", script, asked, Integer.MAX_VALUE);
    }

    private void answered(String what, Script script, Asked asked, int index) {
        String got = Call.answer(m -> asked.of(m, index), script.make());
        checks.isTrue(what + " answered " + got + ", due is an answer", !got.startsWith("throws."));
    }

    private void refused(String what, Script script, Asked asked, int index) {
        checks.refused(what, script, Checks.INDEX, m -> asked.of(m, index));
    }
}
