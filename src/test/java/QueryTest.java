import java.util.NoSuchElementException;

/** Promises 11 to 39: the queries. Each due number was reckoned by hand. */
public final class QueryTest {
    private static final Check CHECK = new Check();
    private static final String HEAD = "league 1000 1200 100 200 50;bracket 100 100;bracket 50 200;teams 3;players 8;";
    /** Salaries 500, 550, 600 with shares 34, 33, 33; 400, 400; 300 with share 7; 90, 108, 126, 144, 162. */
    private static final String TEXT = HEAD + "contract 0 0 500 10 3 100 2;contract 1 0 400 0 2 0 1;"
            + "contract 2 1 300 5 1 7 0;contract 3 1 90 20 5 0 5;";

    public static void main(String[] args) {
        lines();
        offer();
        charges();
        taxes();
        amountsAndRosters();
        teamRank();
        playerValue();
        salariesAndShares();
        playerRank();
        meanSalary();
        signCode();
        bestRule();
        greatestBase();
        releaseCost();
        releaseGain();
        releaseSets();
        swaps();
        taxAhead();
        CHECK.finish("QueryTest");
    }

    private static void lines() {
        SalaryCapLedger x = Check.league("league 999 105 15 0 1;bracket 1 1;teams 1;players 1;");
        CHECK.is("cap", 999, () -> x.cap(0));
        CHECK.is("cap: 1013.985", 1013, () -> x.cap(1));
        CHECK.is("cap: 1028.195", 1028, () -> x.cap(2));
        CHECK.is("cap: 1043.42", 1043, () -> x.cap(3));
        CHECK.is("tax line: 106.575", 106, () -> x.taxLine(1));
        CHECK.is("tax line: 107.59", 107, () -> x.taxLine(2));
        CHECK.illegal("cap of year -1", () -> x.cap(-1));
        CHECK.illegal("cap in 12 years", () -> x.cap(12));
        CHECK.illegal("tax line of year -1", () -> x.taxLine(-1));
        CHECK.illegal("tax line in 12 years", () -> x.taxLine(12));
        CHECK.is("year", 0, () -> x.year());
        x.nextYear();
        x.nextYear();
        CHECK.is("year", 2, () -> x.year());
        CHECK.is("cap of a later year", 1043, () -> x.cap(1));
        CHECK.is("tax line of a later year", 107, () -> x.taxLine(0));
        SalaryCapLedger y = Check.league("league 999999 999998 200 0 1;bracket 1 1;teams 1;players 1;");
        for (int k = 0; k < 15; k++) {
            y.nextYear();
        }
        CHECK.is("the greatest cap", 114475089, () -> y.cap(11));
        CHECK.is("the greatest tax line", 114474993, () -> y.taxLine(11));
    }

    private static void offer() {
        SalaryCapLedger x = Check.league(TEXT);
        int[] first = {1, 0, 1, 0, 0};
        for (int k = 0; k < 5; k++) {
            int what = k;
            CHECK.is("the first offer " + k, first[k], () -> x.offer(what));
        }
        CHECK.illegal("term -1", () -> x.offer(-1));
        CHECK.illegal("term 5", () -> x.offer(5));
    }

    private static void charges() {
        SalaryCapLedger x = Check.league(TEXT);
        CHECK.is("charge", 934, () -> x.charge(0, 0));
        CHECK.is("charge", 983, () -> x.charge(0, 1));
        CHECK.is("charge", 633, () -> x.charge(0, 2));
        CHECK.is("charge", 0, () -> x.charge(0, 3));
        CHECK.is("charge", 162, () -> x.charge(1, 4));
        CHECK.is("charge", 0, () -> x.charge(1, 5));
        CHECK.is("room", 66, () -> x.room(0));
        x.release(1, false);
        CHECK.is("charge with dead money", 934, () -> x.charge(0, 0));
        CHECK.is("dead money", 400, () -> x.deadMoney(0, 0));
        x.makeOffer(67, 0, 1, 0, 0);
        x.sign(0, 4, 1);
        CHECK.is("room below 0", -1, () -> x.room(0));
        x.nextYear();
        CHECK.is("charge of a later year", 583, () -> x.charge(0, 0));
        CHECK.is("room of a later year", 1100 - 583, () -> x.room(0));
        CHECK.illegal("charge: team -1", () -> x.charge(-1, 0));
        CHECK.illegal("charge: team 3", () -> x.charge(3, 0));
        CHECK.illegal("charge: 12 years", () -> x.charge(0, 12));
        CHECK.illegal("charge: -1 years", () -> x.charge(0, -1));
        CHECK.illegal("dead money: team -1", () -> x.deadMoney(-1, 0));
        CHECK.illegal("dead money: team 3", () -> x.deadMoney(3, 0));
        CHECK.illegal("dead money: 12 years", () -> x.deadMoney(0, 12));
        CHECK.illegal("dead money: -1 years", () -> x.deadMoney(0, -1));
        CHECK.illegal("room: team -1", () -> x.room(-1));
        CHECK.illegal("room: team 3", () -> x.room(3));
    }

    private static void taxes() {
        SalaryCapLedger x = Check.league("league 1 100 0 0 1;bracket 50 33;bracket 20 150;bracket 7 201;teams 4;players 4;"
                + "contract 0 0 100 0 1 0 0;contract 1 1 150 0 1 0 0;contract 2 2 165 0 1 0 0;contract 3 3 200 0 1 0 0;");
        CHECK.is("at the tax line", 0, () -> x.tax(0));
        CHECK.is("the first bracket: 16.5", 16, () -> x.tax(1));
        CHECK.is("the second bracket: 16.5 + 22.5", 16 + 22, () -> x.tax(2));
        CHECK.is("all that is left: 16.5 + 30 + 60.3", 16 + 30 + 60, () -> x.tax(3));
        CHECK.is("nothing is paid yet", 0, () -> x.paid(3));
        CHECK.is("nobody was taxed yet", 0, () -> x.taxedYears(3));
        x.nextYear();
        CHECK.is("paid", 106, () -> x.paid(3));
        CHECK.is("taxed", 1, () -> x.taxedYears(3));
        CHECK.is("not taxed", 0, () -> x.taxedYears(0));
        CHECK.illegal("tax: team -1", () -> x.tax(-1));
        CHECK.illegal("tax: team 4", () -> x.tax(4));
        CHECK.illegal("paid: team -1", () -> x.paid(-1));
        CHECK.illegal("paid: team 4", () -> x.paid(4));
        CHECK.illegal("taxedYears: team -1", () -> x.taxedYears(-1));
        CHECK.illegal("taxedYears: team 4", () -> x.taxedYears(4));
        SalaryCapLedger y = Check.league("league 1 1 0 0 1;bracket 99999 900;teams 1;players 12;contract 0 0 99999 0 5 99999 0;"
                + "contract 1 0 99999 0 5 0 0;contract 2 0 99999 0 5 0 0;contract 3 0 99999 0 5 0 0;contract 4 0 99999 0 5 0 0;");
        CHECK.is("a great tax", (99999L * 5 + 20000 - 1) * 9, () -> y.tax(0));
        for (int k = 0; k < 5; k++) {
            y.nextYear();
        }
        CHECK.is("great taxes", (99999L * 5 + 20000 - 1) * 47 - 10, () -> y.paid(0));
    }

    private static void amountsAndRosters() {
        SalaryCapLedger x = Check.league(TEXT);
        CHECK.is("midLevel", 200, () -> x.midLevel(2));
        CHECK.is("roster", 3, () -> x.roster(0));
        CHECK.is("roster", 12, () -> x.roster(1));
        CHECK.is("roster", 0, () -> x.roster(2));
        x.nextYear();
        CHECK.is("roster of a later year", 8, () -> x.roster(1));
        CHECK.illegal("midLevel: team -1", () -> x.midLevel(-1));
        CHECK.illegal("midLevel: team 3", () -> x.midLevel(3));
        CHECK.illegal("roster: team -1", () -> x.roster(-1));
        CHECK.illegal("roster: team 3", () -> x.roster(3));
    }

    private static void teamRank() {
        SalaryCapLedger x = Check.league("league 100 50 0 0 1;bracket 1 100;teams 4;players 6;"
                + "contract 0 2 60 0 1 0 0;contract 1 0 40 0 1 0 1;contract 2 0 2 0 1 0 0;contract 3 3 60 0 1 0 0;"
                + "contract 4 1 45 0 1 0 1;");
        ranking(x, 0, 2, 3, 1, 0);
        ranking(x, 1, 0, 1, 2, 3);
        ranking(x, 2, 0, 1, 2, 3);
        ranking(x, 3, 2, 3, 0, 1);
        ranking(x, 4, 0, 1, 2, 3);
        x.release(4, false);
        ranking(x, 2, 1, 0, 2, 3);
        ranking(x, 4, 0, 2, 3, 1);
        CHECK.refuses("place 4", NoSuchElementException.class, () -> x.teamRank(0, 4));
        CHECK.refuses("the last place of all", NoSuchElementException.class, () -> x.teamRank(4, 2147483647));
        CHECK.illegal("place -1", () -> x.teamRank(0, -1));
        CHECK.illegal("kind -1", () -> x.teamRank(-1, 0));
        CHECK.illegal("kind 5", () -> x.teamRank(5, 4));
    }

    private static void ranking(SalaryCapLedger x, int what, int... teams) {
        for (int k = 0; k < teams.length; k++) {
            int place = k;
            CHECK.is("teamRank " + what + ", " + place, teams[place], () -> x.teamRank(what, place));
        }
    }

    private static void playerValue() {
        SalaryCapLedger x = Check.league(TEXT);
        values(x, 0, 0, 0, 0, 0, 3, 2, 100);
        values(x, 3, 1, 1, 0, 0, 5, 5, 0);
        values(x, 7, -1, -1, 0, -2, -2, -2, -2);
        x.nextYear();
        values(x, 0, 0, 0, 1, 1, 2, 2, 66);
        values(x, 2, -1, 1, 1, -2, -2, -2, -2);
        x.nextYear();
        values(x, 0, 0, 0, 2, 2, 1, 2, 33);
        x.release(0, false);
        values(x, 0, -1, -1, 0, -2, -2, -2, -2);
        CHECK.illegal("player -1", () -> x.playerValue(-1, 0));
        CHECK.illegal("player 8", () -> x.playerValue(8, 0));
        CHECK.illegal("kind -1", () -> x.playerValue(0, -1));
        CHECK.illegal("kind 7", () -> x.playerValue(0, 7));
        CHECK.illegal("kind 7 without a contract", () -> x.playerValue(7, 7));
    }

    private static void values(SalaryCapLedger x, int player, int... due) {
        for (int k = 0; k < due.length; k++) {
            int what = k;
            CHECK.is("playerValue " + player + ", " + what, due[what], () -> x.playerValue(player, what));
        }
    }

    private static void salariesAndShares() {
        SalaryCapLedger x = Check.league(HEAD + "contract 0 0 99 7 5 13 0;");
        int[] salaries = {99, 99 + 6, 99 + 13, 99 + 20, 99 + 27, 0, 0};
        int[] shares = {3, 3, 3, 2, 2, 0, 0};
        for (int k = 0; k < 7; k++) {
            int ahead = k;
            CHECK.is("salary in " + k, salaries[k], () -> x.salary(0, ahead));
            CHECK.is("share in " + k, shares[k], () -> x.share(0, ahead));
        }
        x.nextYear();
        CHECK.is("salary a year on", 112, () -> x.salary(0, 1));
        CHECK.is("share a year on", 2, () -> x.share(0, 2));
        CHECK.is("salary of nobody", 0, () -> x.salary(1, 0));
        CHECK.is("share of nobody", 0, () -> x.share(1, 0));
        CHECK.illegal("salary: player -1", () -> x.salary(-1, 0));
        CHECK.illegal("salary: player 8", () -> x.salary(8, 0));
        CHECK.illegal("salary: -1 years", () -> x.salary(0, -1));
        CHECK.illegal("salary: 12 years", () -> x.salary(1, 12));
        CHECK.illegal("share: player -1", () -> x.share(-1, 0));
        CHECK.illegal("share: player 8", () -> x.share(8, 0));
        CHECK.illegal("share: -1 years", () -> x.share(0, -1));
        CHECK.illegal("share: 12 years", () -> x.share(1, 12));
    }

    private static void playerRank() {
        SalaryCapLedger x = Check.league(HEAD + "contract 6 0 90 0 1 10 0;contract 1 1 100 0 1 0 0;"
                + "contract 3 0 101 0 2 0 0;contract 4 1 99 0 1 0 0;");
        int[] ranking = {3, 1, 6, 4};
        for (int k = 0; k < 4; k++) {
            int place = k;
            CHECK.is("playerRank " + place, ranking[place], () -> x.playerRank(place));
        }
        CHECK.refuses("place 4", NoSuchElementException.class, () -> x.playerRank(4));
        CHECK.illegal("place -1", () -> x.playerRank(-1));
        x.nextYear();
        CHECK.is("alone", 3, () -> x.playerRank(0));
        CHECK.refuses("nobody else", NoSuchElementException.class, () -> x.playerRank(1));
    }

    private static void meanSalary() {
        SalaryCapLedger x = Check.league(HEAD + "contract 0 0 100 0 1 50 0;contract 1 0 101 0 1 0 0;contract 2 0 1 0 1 0 0;"
                + "contract 3 1 7 0 1 3 0;contract 4 1 8 0 1 0 0;");
        CHECK.is("202 / 3", 202.0 / 3.0, () -> x.meanSalary(0));
        CHECK.is("15 / 2", 7.5, () -> x.meanSalary(1));
        CHECK.refuses("nobody", ArithmeticException.class, () -> x.meanSalary(2));
        CHECK.illegal("team 3", () -> x.meanSalary(3));
        CHECK.illegal("team -1", () -> x.meanSalary(-1));
    }

    private static void signCode() {
        SalaryCapLedger x = Check.league(TEXT);
        x.makeOffer(60, 0, 2, 0, 0);
        CHECK.is("signCode by room", 0, () -> x.signCode(0, 4, 0));
        CHECK.is("by the mid-level amount", 0, () -> x.signCode(0, 4, 1));
        CHECK.is("by the minimum", -4, () -> x.signCode(0, 4, 2));
        CHECK.is("own player", -4, () -> x.signCode(0, 4, 3));
        CHECK.is("with a contract", -2, () -> x.signCode(0, 0, 0));
        CHECK.is("nobody was signed", 3, () -> x.roster(0));
        CHECK.illegal("team 3", () -> x.signCode(3, 4, 0));
        CHECK.illegal("player 8", () -> x.signCode(0, 8, 0));
        CHECK.illegal("rule 4", () -> x.signCode(0, 0, 4));
        CHECK.illegal("rule -1", () -> x.signCode(0, 0, -1));
    }

    private static void bestRule() {
        SalaryCapLedger x = Check.league(TEXT);
        CHECK.is("room", 0, () -> x.bestRule(0, 4));
        CHECK.is("with a contract", -2, () -> x.bestRule(0, 0));
        x.makeOffer(67, 0, 2, 0, 0);
        CHECK.is("mid-level", 1, () -> x.bestRule(0, 4));
        x.makeOffer(201, 0, 2, 0, 0);
        CHECK.is("none", -2, () -> x.bestRule(0, 4));
        x.makeOffer(134, 0, 1, 0, 0);
        x.sign(0, 4, 1);
        x.makeOffer(66, 0, 1, 0, 0);
        x.sign(0, 5, 1);
        x.makeOffer(50, 0, 1, 0, 0);
        CHECK.is("minimum", 2, () -> x.bestRule(0, 6));
        x.nextYear();
        x.nextYear();
        x.makeOffer(2000, 0, 5, 0, 0);
        CHECK.is("own player", 3, () -> x.bestRule(0, 1));
        CHECK.is("not of another team", -2, () -> x.bestRule(1, 1));
        CHECK.illegal("team -1", () -> x.bestRule(-1, 0));
        CHECK.illegal("team 3", () -> x.bestRule(3, 0));
        CHECK.illegal("player -1", () -> x.bestRule(0, -1));
        CHECK.illegal("player 8", () -> x.bestRule(0, 8));
    }

    private static void greatestBase() {
        SalaryCapLedger x = Check.league(TEXT);
        x.makeOffer(99999, 3, 3, 100, 0);
        CHECK.is("room 66 less 34", 32, () -> x.greatestBase(0, 4, 0));
        CHECK.is("200 less 34", 166, () -> x.greatestBase(0, 4, 1));
        CHECK.is("no minimum with a bonus", -2, () -> x.greatestBase(0, 4, 2));
        CHECK.is("not the own player", -2, () -> x.greatestBase(0, 4, 3));
        CHECK.is("with a contract", -2, () -> x.greatestBase(1, 0, 0));
        x.makeOffer(1, 0, 4, 264, 0);
        CHECK.is("room for the bonus alone", -2, () -> x.greatestBase(0, 4, 0));
        CHECK.is("four years", -2, () -> x.greatestBase(0, 4, 1));
        x.makeOffer(1, 0, 2, 0, 2);
        CHECK.is("the minimum", 50, () -> x.greatestBase(0, 4, 2));
        x.makeOffer(1, 0, 3, 0, 2);
        CHECK.is("three years", -2, () -> x.greatestBase(0, 4, 2));
        x.makeOffer(1, 1, 2, 0, 2);
        CHECK.is("a raise", -2, () -> x.greatestBase(0, 4, 2));
        x.nextYear();
        x.nextYear();
        CHECK.is("the own player", 99999, () -> x.greatestBase(0, 1, 3));
        CHECK.illegal("team 3", () -> x.greatestBase(3, 4, 0));
        CHECK.illegal("player 8", () -> x.greatestBase(0, 8, 0));
        CHECK.illegal("rule 4", () -> x.greatestBase(0, 0, 4));
        CHECK.illegal("rule -1", () -> x.greatestBase(0, 0, -1));
        SalaryCapLedger y = Check.league("league 999999 1 0 1 1;bracket 1 1;teams 1;players 2;");
        CHECK.is("the greatest of all", 99999, () -> y.greatestBase(0, 0, 0));
        CHECK.is("1", 1, () -> y.greatestBase(0, 0, 1));
    }

    private static void releaseCost() {
        SalaryCapLedger x = Check.league(TEXT);
        CHECK.is("at once", 600, () -> x.releaseCost(0, false, 0));
        CHECK.is("the next year", 550, () -> x.releaseCost(0, false, 1));
        CHECK.is("not guaranteed", 0, () -> x.releaseCost(0, false, 2));
        CHECK.is("stretched", 250, () -> x.releaseCost(0, true, 0));
        CHECK.is("the seventh year", 150, () -> x.releaseCost(0, true, 6));
        CHECK.is("the eighth year", 0, () -> x.releaseCost(0, true, 7));
        CHECK.is("a remainder", 58, () -> x.releaseCost(3, true, 2));
        CHECK.is("behind the remainder", 57, () -> x.releaseCost(3, true, 3));
        CHECK.is("without a contract", -2, () -> x.releaseCost(4, true, 0));
        CHECK.illegal("player 8", () -> x.releaseCost(8, true, 0));
        CHECK.illegal("12 years", () -> x.releaseCost(4, true, 12));
        CHECK.illegal("-1 years", () -> x.releaseCost(0, true, -1));
    }

    private static void releaseGain() {
        SalaryCapLedger x = Check.league(TEXT);
        CHECK.is("534 - 600", -66, () -> x.releaseGain(0, false));
        CHECK.is("534 - 250", 284, () -> x.releaseGain(0, true));
        CHECK.is("guaranteed", 0, () -> x.releaseGain(1, false));
        CHECK.is("307 - 7", 300, () -> x.releaseGain(2, false));
        CHECK.is("without a contract", 0, () -> x.releaseGain(4, false));
        CHECK.illegal("player -1", () -> x.releaseGain(-1, false));
        CHECK.illegal("player 8", () -> x.releaseGain(8, false));
        x.nextYear();
        CHECK.is("a year later", 400, () -> x.releaseGain(1, false));
    }

    private static void releaseSets() {
        SalaryCapLedger x = Check.league("league 100 100 0 0 1;bracket 1 1;teams 3;players 12;"
                + "contract 0 0 60 0 1 9 0;contract 1 0 30 0 2 6 0;contract 2 0 60 0 1 5 0;contract 3 0 30 0 1 3 1;"
                + "contract 4 0 60 0 1 5 0;contract 5 1 101 0 2 0 2;contract 6 2 100 0 1 0 0;");
        CHECK.is("165 too much", 3, () -> x.fewestReleases(0));
        CHECK.is("the only set", 21, () -> x.releaseSet(0));
        CHECK.is("no set is enough", -2, () -> x.fewestReleases(1));
        CHECK.is("no set is enough", -2, () -> x.releaseSet(1));
        CHECK.is("no release is needed", 0, () -> x.fewestReleases(2));
        CHECK.is("no release is needed", 0, () -> x.releaseSet(2));
        x.release(0, false);
        CHECK.is("105 too much", 2, () -> x.fewestReleases(0));
        x.release(3, false);
        CHECK.is("still, by a release without a gain", -105, () -> x.room(0));
        x.release(2, false);
        CHECK.is("45 too much", 1, () -> x.fewestReleases(0));
        CHECK.is("by player 4 alone", 16, () -> x.releaseSet(0));
        CHECK.illegal("team -1", () -> x.fewestReleases(-1));
        CHECK.illegal("team 3", () -> x.fewestReleases(3));
        CHECK.illegal("team -1", () -> x.releaseSet(-1));
        CHECK.illegal("team 3", () -> x.releaseSet(3));
        SalaryCapLedger y = Check.league("league 110 110 0 0 1;bracket 1 1;teams 1;players 6;"
                + "contract 0 0 40 0 2 8 0;contract 1 0 40 0 1 7 0;contract 2 0 40 0 1 7 0;contract 5 0 40 0 1 8 0;");
        CHECK.is("two of four", 2, () -> y.fewestReleases(0));
        CHECK.is("the cheapest two of six pairs", 6, () -> y.releaseSet(0));
        SalaryCapLedger z = Check.league("league 40 100 0 0 1;bracket 1 1;teams 1;players 6;"
                + "contract 1 0 30 0 1 0 0;contract 3 0 30 0 1 0 0;contract 4 0 1 0 2 0 2;");
        CHECK.is("the least of two", 2, () -> z.releaseSet(0));
        SalaryCapLedger later = Check.league("league 40 100 0 0 1;bracket 1 1;teams 1;players 6;"
                + "contract 1 0 30 0 3 9 0;contract 3 0 30 0 1 0 0;contract 5 0 30 0 1 0 0;");
        CHECK.is("without the bonus", 40, () -> later.releaseSet(0));
        releaseLater();
        releaseAll();
    }

    /** In year 1 the shares of player 0 are 20 + 20, those of player 1, who was signed then, 10 + 10 + 10. */
    private static void releaseLater() {
        SalaryCapLedger x = Check.league("league 100 100 0 0 1;bracket 1 1;teams 1;players 3;"
                + "contract 0 0 20 0 3 60 0;contract 2 0 15 0 3 0 0;");
        x.nextYear();
        x.makeOffer(30, 0, 3, 30, 0);
        CHECK.is("signed later", 95, () -> x.sign(0, 1, 0));
        x.makeOffer(1, 0, 1, 0, 0);
        CHECK.is("no release is needed", 0, () -> x.releaseSet(0));
        SalaryCapLedger y = Check.league("league 90 100 0 95 1;bracket 1 1;teams 1;players 3;"
                + "contract 0 0 40 0 3 27 0;contract 1 0 2 0 3 0 2;");
        y.nextYear();
        y.makeOffer(41, 0, 3, 21, 0);
        CHECK.is("signed above the room", 40 + 9 + 2 + 41 + 7, () -> y.sign(0, 2, 1));
        CHECK.is("9 too much", 1, () -> y.fewestReleases(0));
        CHECK.is("18 of dead money are less than 21", 1, () -> y.releaseSet(0));
    }

    private static void releaseAll() {
        StringBuilder text = new StringBuilder("league 1 1 0 0 1;bracket 1 1;teams 2;players 24;");
        for (int k = 0; k < 12; k++) {
            text.append("contract ").append(2 * k + 1).append(" 1 ").append(k + 2).append(" 0 1 0 0;");
        }
        SalaryCapLedger x = Check.league(text.toString());
        CHECK.is("all of twelve", 12, () -> x.fewestReleases(1));
        CHECK.is("the whole roster", 0xaaaaaa, () -> x.releaseSet(1));
    }

    private static void swaps() {
        SalaryCapLedger x = Check.league("league 100 150 0 0 1;bracket 10 100;bracket 1 300;teams 3;players 8;"
                + "contract 0 0 100 0 1 0 0;contract 1 0 20 0 1 0 0;contract 2 0 60 0 2 60 0;"
                + "contract 3 1 100 0 1 0 0;contract 4 1 21 0 1 0 0;contract 5 1 66 0 1 0 0;");
        CHECK.is("the swaps", swapsDone(x, 0, 1), () -> x.swapCount(0, 1));
        CHECK.is("as many the other way", swapsDone(x, 1, 0), () -> x.swapCount(1, 0));
        CHECK.is("nobody to swap with", 0, () -> x.swapCount(0, 2));
        CHECK.is("the best swap", bestSwapDone(x, 0, 1), () -> x.bestSwap(0, 1));
        CHECK.is("the best swap the other way", bestSwapDone(x, 1, 0), () -> x.bestSwap(1, 0));
        CHECK.is("no swap", -2, () -> x.bestSwap(0, 2));
        CHECK.is("nobody moved", 7, () -> x.roster(0));
        CHECK.illegal("the same team", () -> x.swapCount(1, 1));
        CHECK.illegal("team 3", () -> x.swapCount(3, 0));
        CHECK.illegal("other -1", () -> x.swapCount(0, -1));
        CHECK.illegal("the same team", () -> x.bestSwap(1, 1));
        CHECK.illegal("team -1", () -> x.bestSwap(-1, 0));
        CHECK.illegal("other 3", () -> x.bestSwap(0, 3));
        SalaryCapLedger y = Check.league("league 500 100 0 0 1;bracket 9 100;teams 2;players 5;contract 0 0 90 0 1 0 0;"
                + "contract 1 0 30 0 1 0 0;contract 2 1 10 0 1 0 0;contract 3 1 70 0 1 0 0;contract 4 1 50 0 1 0 0;");
        CHECK.is("all six", 6, () -> y.swapCount(0, 1));
        CHECK.is("90 for 70, 30 for 10 and 30 for 50 cost 50: the least of them", 32 * 0 + 3, () -> y.bestSwap(0, 1));
    }

    private static int swapsDone(SalaryCapLedger x, int team, int other) {
        int count = 0;
        for (int pair = 0; pair < 64; pair++) {
            if (x.trade(team, 1 << pair / 8, other, 1 << pair % 8) >= 0) {
                count++;
                x.undo();
            }
        }
        return count;
    }

    private static int bestSwapDone(SalaryCapLedger x, int team, int other) {
        int best = -2;
        long least = Long.MAX_VALUE;
        for (int pair = 0; pair < 64; pair++) {
            if (x.trade(team, 1 << pair / 8, other, 1 << pair % 8) >= 0) {
                long taxes = x.tax(team) + x.tax(other);
                if (taxes < least) {
                    least = taxes;
                    best = 32 * (pair / 8) + pair % 8;
                }
                x.undo();
            }
        }
        return best;
    }

    private static void taxAhead() {
        SalaryCapLedger x = Check.league("league 10 100 0 0 1;bracket 10 100;bracket 10 200;teams 1;players 2;"
                + "contract 0 0 120 0 5 0 0;");
        long[] sums = {30, 60, 90, 140, 190, 190, 190, 190};
        for (int k = 1; k <= 8; k++) {
            int years = k;
            CHECK.is("taxAhead " + k, sums[k - 1], () -> x.taxAhead(0, years));
        }
        CHECK.illegal("no year", () -> x.taxAhead(0, 0));
        CHECK.illegal("nine years", () -> x.taxAhead(0, 9));
        CHECK.illegal("team -1", () -> x.taxAhead(-1, 1));
        CHECK.illegal("team 1", () -> x.taxAhead(1, 1));
        x.nextYear();
        x.nextYear();
        x.nextYear();
        CHECK.is("taxed in three years before", 50, () -> x.taxAhead(0, 1));
        CHECK.is("and again", 100, () -> x.taxAhead(0, 8));
        for (int k = 3; k < 15; k++) {
            x.nextYear();
        }
        x.makeOffer(50, 20, 5, 0, 0);
        x.undo();
        x.makeOffer(9, 0, 5, 5, 5);
        CHECK.is("signed in year 15", 10, () -> x.sign(0, 1, 0));
        CHECK.is("below the line", 0, () -> x.taxAhead(0, 8));
        beyondTheLastYear();
    }

    private static void beyondTheLastYear() {
        SalaryCapLedger x = Check.league("league 999 100 0 0 1;bracket 10 100;bracket 10 200;teams 1;players 2;");
        for (int k = 0; k < 15; k++) {
            x.nextYear();
        }
        x.makeOffer(120, 0, 5, 0, 0);
        x.sign(0, 0, 0);
        CHECK.is("years 15 to 19", 190, () -> x.taxAhead(0, 8));
        CHECK.is("nothing was paid", 0, () -> x.paid(0));
        CHECK.is("nobody was taxed", 0, () -> x.taxedYears(0));
    }
}
