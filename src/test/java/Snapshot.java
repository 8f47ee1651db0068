/**
 * All that a ledger answers, written down as one text. Each part is asked of an object of its own, so that
 * no object is called more than 512 times; for leagues of at most 4 teams and 5 players.
 */
final class Snapshot {
    private static final int TEAMS = 4;
    private static final int PLAYERS = 5;
    private static final int AHEAD = 12;

    private final StringBuilder found = new StringBuilder();

    /** Makes the same ledger each time that it is asked. */
    interface Scene {
        SalaryCapLedger make();
    }

    /** Everything but the text buffer and errorPosition(). */
    static String league(Scene scene) {
        Snapshot all = new Snapshot();
        all.noteTeams(scene.make());
        all.notePlayers(scene.make());
        all.noteSignings(scene.make());
        all.noteReleasesAndSwaps(scene.make());
        all.noteUndoing(scene.make());
        return all.found.toString();
    }

    static String buffer(Scene scene) {
        Snapshot all = new Snapshot();
        SalaryCapLedger x = scene.make();
        all.note("errorPosition", () -> x.errorPosition());
        all.note("append", () -> x.append(0x20202020, 0x20202020, 0x20202020, 0x20202020, 0x20202020));
        all.note("load", () -> x.load());
        all.note("errorPosition", () -> x.errorPosition());
        return all.found.toString();
    }

    static String whole(Scene scene) {
        return league(scene) + buffer(scene);
    }

    private void note(String what, Check.Call call) {
        found.append(what).append('=').append(Check.outcomeOf(call)).append(' ');
    }

    private void noteTeams(SalaryCapLedger x) {
        note("year", () -> x.year());
        for (int k = 0; k < AHEAD; k++) {
            int ahead = k;
            note("cap", () -> x.cap(ahead));
            note("taxLine", () -> x.taxLine(ahead));
        }
        for (int k = 0; k < 5; k++) {
            int what = k;
            note("offer", () -> x.offer(what));
            for (int place = 0; place <= TEAMS; place++) {
                int at = place;
                note("teamRank", () -> x.teamRank(what, at));
            }
        }
        for (int k = 0; k < TEAMS; k++) {
            noteTeam(x, k);
        }
    }

    private void noteTeam(SalaryCapLedger x, int team) {
        for (int k = 0; k < AHEAD; k++) {
            int ahead = k;
            note("charge", () -> x.charge(team, ahead));
            note("deadMoney", () -> x.deadMoney(team, ahead));
        }
        note("room", () -> x.room(team));
        note("tax", () -> x.tax(team));
        note("paid", () -> x.paid(team));
        note("taxedYears", () -> x.taxedYears(team));
        note("midLevel", () -> x.midLevel(team));
        note("roster", () -> x.roster(team));
        note("meanSalary", () -> x.meanSalary(team));
        for (int k = 1; k <= 8; k++) {
            int years = k;
            note("taxAhead", () -> x.taxAhead(team, years));
        }
    }

    private void notePlayers(SalaryCapLedger x) {
        for (int k = 0; k < PLAYERS; k++) {
            int player = k;
            for (int what = 0; what < 7; what++) {
                int which = what;
                note("playerValue", () -> x.playerValue(player, which));
            }
            for (int year = 0; year < AHEAD; year++) {
                int ahead = year;
                note("salary", () -> x.salary(player, ahead));
                note("share", () -> x.share(player, ahead));
            }
            note("playerRank", () -> x.playerRank(player));
        }
    }

    private void noteSignings(SalaryCapLedger x) {
        for (int k = 0; k < TEAMS * PLAYERS; k++) {
            int team = k / PLAYERS;
            int player = k % PLAYERS;
            note("bestRule", () -> x.bestRule(team, player));
            for (int r = 0; r < 4; r++) {
                int rule = r;
                note("signCode", () -> x.signCode(team, player, rule));
                note("greatestBase", () -> x.greatestBase(team, player, rule));
            }
        }
    }

    private void noteReleasesAndSwaps(SalaryCapLedger x) {
        for (int k = 0; k < PLAYERS; k++) {
            int player = k;
            for (int year = 0; year < AHEAD; year++) {
                int ahead = year;
                note("releaseCost", () -> x.releaseCost(player, false, ahead));
                note("releaseCost stretched", () -> x.releaseCost(player, true, ahead));
            }
            note("releaseGain", () -> x.releaseGain(player, false));
            note("releaseGain stretched", () -> x.releaseGain(player, true));
        }
        for (int k = 0; k < TEAMS; k++) {
            int team = k;
            note("fewestReleases", () -> x.fewestReleases(team));
            note("releaseSet", () -> x.releaseSet(team));
            for (int l = 0; l < TEAMS; l++) {
                int other = l;
                note("swapCount", () -> x.swapCount(team, other));
                note("bestSwap", () -> x.bestSwap(team, other));
                note("tradeCode", () -> x.tradeCode(team, 1, other, 2));
            }
        }
    }

    private void noteUndoing(SalaryCapLedger x) {
        for (int k = 0; k < 11; k++) {
            note("undo", () -> x.undo());
            note("year", () -> x.year());
            note("offer", () -> x.offer(0));
            note("charges", () -> x.charge(0, 0) * 1000000.0 + x.charge(1, 0));
            note("rosters", () -> x.roster(0) * 1000000.0 + x.roster(1));
        }
    }
}
