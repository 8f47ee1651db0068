/**
 * "5 RELEASING" and promises 8, 16 and 32 to 35: each sentence that names a boundary case. A check's name begins with
 * the section or promise that it is for. Each due number was reckoned by hand.
 */
public final class ReleaseEdgesTest {
    private static final Check CHECK = new Check();
    private static final String HEAD = "league 1000 9000 0 0 99999;bracket 1 0;teams 2;players 24;";
    /** Salaries 100, 110, 120, 130, 140, three of them guaranteed; shares 3, 3, 3, 2, 2. */
    private static final String FIVE = "contract 0 0 100 10 5 13 3;";

    public static void main(String[] args) {
        withoutStretching();
        withStretching();
        remainders();
        oneYearAndAllYears();
        noGuaranteedYear();
        inYearFifteen();
        tradedContract();
        deadMoneyAddsUp();
        deadMoneyStays();
        releasedPlayer();
        releaseErrors();
        releaseGain();
        fewestAroundZero();
        fewestOfSeveral();
        fewestWithoutPlayers();
        fewestDoesNotStretch();
        fewestOfTwelve();
        leastSumOfDeadMoney();
        leastAsANumber();
        leastSumOfLaterContracts();
        eachTeamForItself();
        CHECK.finish("ReleaseEdgesTest");
    }

    /** Releases player 0 in a year and compares with what was told before: promise 32 and section 5 at once. */
    private static void released(String what, String contract, int year, boolean stretch, int... due) {
        SalaryCapLedger x = Check.league(HEAD + contract);
        endYears(x, year);
        String name = what + ", released in year number " + year + (stretch ? ", stretched" : "");
        int all = 0;
        for (int k = 0; k < 12; k++) {
            int ahead = k;
            int part = k < due.length ? due[k] : 0;
            all += part;
            CHECK.is(name + ": P32 releaseCost " + k + " ahead", part, () -> x.releaseCost(0, stretch, ahead));
        }
        int sum = all;
        int charge = x.charge(0, 0);
        CHECK.is(name + ": P33 releaseGain", charge - due[0], () -> x.releaseGain(0, stretch));
        CHECK.is(name + ": P8 'the sum of all dead money that arises'", sum, () -> x.release(0, stretch));
        for (int k = 0; k < 12; k++) {
            int ahead = k;
            int part = k < due.length ? due[k] : 0;
            CHECK.is(name + ": dead money " + k + " ahead", part, () -> x.deadMoney(0, ahead));
            CHECK.is(name + ": no other team's dead money", 0, () -> x.deadMoney(1, ahead));
            CHECK.is(name + ": charge " + k + " ahead", part, () -> x.charge(0, ahead));
        }
    }

    private static void withoutStretching() {
        released("5: the first year", FIVE, 0, false, 100 + 13, 110, 120);
        released("5: all shares from this year on", FIVE, 1, false, 110 + 10, 120);
        released("5: the last guaranteed year", FIVE, 2, false, 120 + 7);
        released("5 'none if G is at most i': G is i", FIVE, 3, false, 4);
        released("5 'none if G is at most i': the last year", FIVE, 4, false, 2);
    }

    private static void withStretching() {
        released("5: 330 over 11 years, no remainder", FIVE, 0, true, 43, 30, 30, 30, 30, 30, 30, 30, 30, 30, 30);
        released("5: 230 over 9 years, remainder 5", FIVE, 1, true, 36, 26, 26, 26, 26, 25, 25, 25, 25);
        released("5: 120 over 7 years, remainder 1", FIVE, 2, true, 25, 17, 17, 17, 17, 17, 17);
        released("5 'none if G is at most i': nothing to stretch", FIVE, 3, true, 4);
        released("5: nothing to stretch in the last year", FIVE, 4, true, 2);
    }

    private static void remainders() {
        released("5: 10 over 11 years, all is remainder", "contract 0 0 10 0 5 0 1;", 0, true, 1, 1, 1, 1, 1, 1, 1, 1, 1, 1, 0);
        released("5: 11 over 11 years", "contract 0 0 11 0 5 0 1;", 0, true, 1, 1, 1, 1, 1, 1, 1, 1, 1, 1, 1);
        released("5: 12 over 11 years, remainder 1", "contract 0 0 12 0 5 0 1;", 0, true, 2, 1, 1, 1, 1, 1, 1, 1, 1, 1, 1);
        released("5: 21 over 11 years, remainder 10", "contract 0 0 21 0 5 0 1;", 0, true, 2, 2, 2, 2, 2, 2, 2, 2, 2, 2, 1);
        released("5: 1 over 3 years", "contract 0 0 1 0 1 0 1;", 0, true, 1);
        released("5: 2 over 3 years", "contract 0 0 2 0 1 0 1;", 0, true, 1, 1);
        released("5: 3 over 3 years", "contract 0 0 3 0 1 0 1;", 0, true, 1, 1, 1);
        released("5: 5 over 3 years", "contract 0 0 5 0 1 0 1;", 0, true, 2, 2, 1);
    }

    private static void oneYearAndAllYears() {
        String whole = "contract 0 0 100 10 5 13 5;";
        released("5: every year guaranteed", whole, 0, false, 113, 110, 120, 130, 140);
        released("5: 600 over 11 years, remainder 6", whole, 0, true, 68, 55, 55, 55, 55, 55, 54, 54, 54, 54, 54);
        released("5: the last year alone, guaranteed", whole, 4, false, 142);
        released("5: 140 over 3 years, remainder 2", whole, 4, true, 49, 47, 46);
        released("5: the last but one", whole, 3, true, 58, 54, 54, 54, 54);
        released("5: one guaranteed year of one", "contract 0 0 100 20 1 9 1;", 0, false, 109);
        released("5: 2 * (L - i) + 1 is 3", "contract 0 0 100 20 1 9 1;", 0, true, 43, 33, 33);
        released("5: 2 * (L - i) + 1 is 5", "contract 0 0 50 20 2 0 2;", 0, true, 22, 22, 22, 22, 22);
        released("1: the greatest sums", "contract 0 0 99999 20 5 99999 5;", 0, false,
                99999 + 99999, 119998, 139998, 159998, 179998);
    }

    private static void noGuaranteedYear() {
        released("5: G is 0, a bonus alone", "contract 0 0 100 10 5 13 0;", 0, false, 13);
        released("5: G is 0, stretched", "contract 0 0 100 10 5 13 0;", 0, true, 13);
        released("5: neither guarantee nor bonus", "contract 0 0 100 10 5 0 0;", 0, false, 0);
        released("5: neither guarantee nor bonus, stretched", "contract 0 0 100 10 5 0 0;", 2, true, 0);
        released("5: the first year guaranteed, released in the second", "contract 0 0 100 10 5 10 1;", 1, true, 8);
    }

    private static void inYearFifteen() {
        SalaryCapLedger x = Check.league(HEAD);
        endYears(x, 15);
        x.makeOffer(100, 10, 5, 13, 5);
        x.sign(0, 3, 0);
        CHECK.is("5: released in year 15, 600 over 11 years", 613, () -> x.release(3, true));
        CHECK.is("5, P16: the first of them, year 15", 68, () -> x.deadMoney(0, 0));
        CHECK.is("5, P16: the last of them, year 25", 54, () -> x.deadMoney(0, 10));
        CHECK.is("5, P16: year 26", 0, () -> x.deadMoney(0, 11));
    }

    private static void tradedContract() {
        SalaryCapLedger x = Check.league(HEAD + FIVE);
        x.trade(0, 1, 1, 0);
        CHECK.is("5: released after a trade, no shares, stretched", 30, () -> x.releaseCost(0, true, 0));
        CHECK.is("5: released after a trade, no shares", 100, () -> x.releaseCost(0, false, 0));
        CHECK.is("5: released after a trade, gain", 0, () -> x.releaseGain(0, false));
        CHECK.is("5: released after a trade", 330, () -> x.release(0, false));
        CHECK.is("5 'dead money of the team': of the one that it plays for", 100, () -> x.deadMoney(1, 0));
        CHECK.is("5: the former team keeps the shares", 13, () -> x.deadMoney(0, 0));
        CHECK.is("5: the former team has no other dead money", 0, () -> x.deadMoney(0, 1));
    }

    private static void deadMoneyAddsUp() {
        SalaryCapLedger x = Check.league(HEAD + FIVE + "contract 1 0 7 0 2 5 2;contract 2 1 9 0 1 0 1;");
        x.release(0, true);
        x.release(1, false);
        x.release(2, false);
        CHECK.is("5, P16: 43 and 12", 55, () -> x.deadMoney(0, 0));
        CHECK.is("5, P16: 30 and 7", 37, () -> x.deadMoney(0, 1));
        CHECK.is("5, P16: the last year of both", 30, () -> x.deadMoney(0, 10));
        CHECK.is("5, P16: the other team's", 9, () -> x.deadMoney(1, 0));
        x.undo();
        CHECK.is("5, P40: the last release undone", 0, () -> x.deadMoney(1, 0));
        CHECK.is("5, P40: the others are not", 55, () -> x.deadMoney(0, 0));
    }

    private static void deadMoneyStays() {
        SalaryCapLedger x = Check.league(HEAD + FIVE);
        x.release(0, true);
        for (int year = 1; year <= 11; year++) {
            int then = year;
            x.nextYear();
            CHECK.is("P16 'The dead money of that year', year " + year, then <= 10 ? 30 : 0, () -> x.deadMoney(0, 0));
            CHECK.is("P16 'that year', ten years ahead of year " + year, 0, () -> x.deadMoney(0, 10));
            CHECK.is("3 'plus its dead money of this year', year " + year, then <= 10 ? 30 : 0, () -> x.charge(0, 0));
        }
    }

    private static void releasedPlayer() {
        SalaryCapLedger x = Check.league(HEAD + FIVE + "contract 1 0 50 0 3 0 0;");
        x.nextYear();
        x.release(0, true);
        CHECK.is("P8: no team", SalaryCapLedger.NONE, () -> x.playerValue(0, 0));
        CHECK.is("P8: no last team", SalaryCapLedger.NONE, () -> x.playerValue(0, 1));
        CHECK.is("P8: tenure 0", 0, () -> x.playerValue(0, 2));
        CHECK.is("P8: no contract", -2, () -> x.playerValue(0, 3));
        CHECK.is("P8: no salary", 0, () -> x.salary(0, 0) + x.share(0, 0));
        CHECK.is("P8: the others play on", 2, () -> x.roster(0));
        CHECK.is("P8: nor is the tenure of the others changed", 1, () -> x.playerValue(1, 2));
        CHECK.is("P8: signed again at once", 36 + 50 + 1, () -> x.sign(0, 0, 2));
    }

    private static void releaseErrors() {
        SalaryCapLedger x = Check.league(HEAD + FIVE);
        for (boolean stretch : new boolean[] {false, true}) {
            CHECK.is("P8 '-2 if the player has no contract'", -2, () -> x.release(1, stretch));
            CHECK.is("P32 '-2 if the player has no contract'", -2, () -> x.releaseCost(1, stretch, 0));
            CHECK.is("P32 '-2 if the player has no contract', 11 years ahead", -2, () -> x.releaseCost(1, stretch, 11));
            CHECK.is("P33 '0 also if the player has no contract'", 0, () -> x.releaseGain(1, stretch));
            CHECK.illegal("P8: out of range before -2", () -> x.release(24, stretch));
            CHECK.illegal("P32: out of range before -2", () -> x.releaseCost(1, stretch, 12));
        }
        x.release(0, false);
        CHECK.is("P8: a player who was released", -2, () -> x.release(0, false));
        CHECK.is("P33: a player who was released", 0, () -> x.releaseGain(0, false));
        endYears(x, 1);
        CHECK.is("P8: only what succeeded can be undone", 1, () -> x.undo());
        SalaryCapLedger over = Check.league(HEAD + "contract 0 0 100 0 1 9 1;");
        over.nextYear();
        CHECK.is("P8: a contract that is over", -2, () -> over.release(0, false));
        CHECK.is("P32: a contract that is over", -2, () -> over.releaseCost(0, false, 0));
        CHECK.is("P33: a contract that is over", 0, () -> over.releaseGain(0, true));
    }

    private static void releaseGain() {
        gained("P33 'which can be negative': all shares at once", "100 0 5 50 5", 110 - 150, 110 - 50 - 46);
        gained("P33: 0 of a guaranteed salary alone", "100 0 1 0 1", 0, 66);
        gained("P33: all of the salary", "100 0 1 9 0", 100, 100);
        gained("P33: 0, the salary is the later shares", "8 0 5 10 0", 0, 0);
        gained("P33: -1", "7 0 5 10 0", -1, -1);
        gained("P33: 1", "9 0 5 10 0", 1, 1);
    }

    private static void gained(String what, String terms, int plain, int stretched) {
        SalaryCapLedger x = Check.league(HEAD + "contract 0 0 " + terms + ";");
        CHECK.is(what, plain, () -> x.releaseGain(0, false));
        CHECK.is(what + ", stretched", stretched, () -> x.releaseGain(0, true));
        int room = x.room(0);
        x.release(0, false);
        CHECK.is(what + ": P33 'by how much releasing would increase the room'", plain, () -> x.room(0) - room);
        x.undo();
        x.release(0, true);
        CHECK.is(what + ", stretched: P33 'increase the room'", stretched, () -> x.room(0) - room);
    }

    /** A league of team 0 alone with a cap. */
    private static SalaryCapLedger team(int cap, String contracts) {
        return Check.league("league " + cap + " 9000 0 99999 1;bracket 1 0;teams 1;players 24;" + contracts);
    }

    private static void fewest(String what, int fewest, int set, SalaryCapLedger x) {
        CHECK.is("P34 " + what, fewest, () -> x.fewestReleases(0));
        CHECK.is("P35 " + what, set, () -> x.releaseSet(0));
    }

    private static void fewestAroundZero() {
        String two = "contract 1 0 60 0 1 0 0;contract 4 0 40 0 1 0 0;";
        fewest("'0 or more': the room is 1", 0, 0, team(101, two));
        fewest("'0 or more': the room is 0", 0, 0, team(100, two));
        fewest("'0 or more': the room is -1", 1, 2, team(99, two));
        fewest("'0 or more': one player is just enough", 1, 2, team(40, two));
        fewest("'0 or more': one player is too few by 1", 2, 18, team(39, two));
        fewest("'0 or more': both are needed", 2, 18, team(1, two));
        fewest("the player with the greater number alone is enough", 1, 16,
                team(59, "contract 1 0 40 0 1 0 0;contract 4 0 60 0 1 0 0;"));
        fewest("no set is enough by 1", -2, -2, team(4, "contract 1 0 60 0 1 5 0;"));
        fewest("all of them are just enough", 1, 2, team(5, "contract 1 0 60 0 1 5 0;"));
        fewest("a gain of 1 is enough", 1, 2, team(9, "contract 1 0 1 0 1 0 0;contract 2 0 9 0 1 0 1;"));
        fewest("a gain of 0 is not enough", -2, -2, team(59, "contract 1 0 60 0 1 0 1;"));
        fewest("a release that costs room is in no set", 1, 4, team(100,
                "contract 1 0 10 0 5 50 0;contract 2 0 60 0 1 0 0;contract 3 0 50 0 1 0 1;"));
    }

    private static void fewestOfSeveral() {
        String five = "contract 0 0 10 0 1 0 0;contract 1 0 20 0 1 0 0;contract 2 0 30 0 1 0 0;contract 3 0 40 0 1 0 0;"
                + "contract 4 0 50 0 1 0 0;";
        fewest("1 of 5: 50 too much", 1, 16, team(100, five));
        fewest("2 of 5: 51 too much, 20 and 40 are the least number", 2, 10, team(99, five));
        fewest("2 of 5: 90 too much", 2, 24, team(60, five));
        fewest("3 of 5: 91 too much, 20, 30 and 50 are the least number", 3, 22, team(59, five));
        fewest("4 of 5: 121 too much", 4, 29, team(29, five));
        fewest("5 of 5: 141 too much", 5, 31, team(9, five));
    }

    private static void fewestWithoutPlayers() {
        SalaryCapLedger x = team(100, "contract 1 0 101 0 2 0 2;");
        x.release(1, false);
        fewest("no player, and the room is -1 for dead money", -2, -2, x);
        x.nextYear();
        fewest("no player, and the room is -1 in the next year", -2, -2, x);
        x.nextYear();
        fewest("no player, and the room is 100", 0, 0, x);
        SalaryCapLedger both = team(100, "contract 1 0 101 0 2 0 2;contract 2 0 7 0 1 0 0;contract 3 0 1 0 1 0 0;");
        both.release(1, false);
        fewest("more dead money than the cap, all players are too few", -2, -2, both);
        both.undo();
        fewest("before that release, no set is enough either", -2, -2, both);
        SalaryCapLedger none = team(100, "");
        fewest("no player and no charge", 0, 0, none);
    }

    private static void fewestDoesNotStretch() {
        fewest("'without stretching'", -2, -2, team(99, "contract 1 0 100 0 1 0 1;"));
        CHECK.is("P34 'without stretching': stretched it would be enough", 66, () ->
                team(99, "contract 1 0 100 0 1 0 1;").releaseGain(1, true));
    }

    private static void fewestOfTwelve() {
        StringBuilder text = new StringBuilder();
        for (int k = 0; k < 12; k++) {
            text.append("contract ").append(23 - 2 * k).append(" 0 ").append(10 + k).append(" 0 1 0 0;");
        }
        fewest("twelve players, all of them", 12, 0xaaaaaa, team(9, text.toString()));
        fewest("twelve players, all but the least", 11, 0x2aaaaa, team(10, text.toString()));
        fewest("twelve players, the greatest alone", 1, 2, team(186 - 21, text.toString()));
    }

    private static void leastSumOfDeadMoney() {
        fewest("'the least sum of all dead money'", 1, 4, team(110,
                "contract 1 0 60 0 1 9 0;contract 2 0 60 0 1 7 0;contract 3 0 30 0 1 4 0;"));
        fewest("'all dead money': the shares of later years, too", 1, 4, team(80,
                "contract 1 0 60 0 3 9 0;contract 2 0 60 0 1 7 0;"));
        fewest("nothing is dead: the least as a number", 1, 2, team(100, "contract 1 0 60 20 4 0 0;contract 2 0 70 20 4 0 0;"));
        fewest("fewest first, whatever they cost", 1, 2, team(190,
                "contract 1 0 100 0 1 90 0;contract 2 0 50 0 1 0 0;contract 3 0 50 0 1 0 0;"));
        fewest("the costlier one is not enough, nor is the cheapest", 1, 8, team(90,
                "contract 1 0 19 0 1 0 0;contract 2 0 30 0 1 6 0;contract 3 0 50 0 1 5 0;"));
    }

    private static void leastAsANumber() {
        fewest("'of several the least as a number'", 1, 2, team(50, "contract 1 0 30 0 1 0 0;contract 2 0 30 0 1 0 0;"));
        fewest("the text's order does not count", 1, 2, team(50, "contract 2 0 30 0 1 0 0;contract 1 0 30 0 1 0 0;"));
        fewest("players 1 and 2 are less than 0 and 3", 2, 6, team(60,
                "contract 0 0 10 0 1 1 0;contract 1 0 20 0 1 2 0;contract 2 0 30 0 1 3 0;contract 3 0 40 0 1 4 0;"));
        fewest("players 1 and 2 are less than 0 and 3, though player 0 is the cheapest", 2, 6, team(69,
                "contract 0 0 10 0 1 1 0;contract 1 0 25 0 1 2 0;contract 2 0 25 0 1 3 0;contract 3 0 45 0 1 4 0;"));
    }

    /** The shares 5 and 4 of player 1 are dearer than 3, 3 and 2 of player 2; each of them is enough. */
    private static void leastSumOfLaterContracts() {
        SalaryCapLedger x = team(73, "");
        x.nextYear();
        x.makeOffer(60, 0, 2, 9, 0);
        x.sign(0, 1, 1);
        x.makeOffer(60, 0, 3, 8, 0);
        x.sign(0, 2, 1);
        CHECK.is("P34, P35: the room is -55", -55, () -> x.room(0));
        fewest("contracts that began in year 1", 1, 4, x);
    }

    private static void eachTeamForItself() {
        SalaryCapLedger x = Check.league("league 100 100 0 0 1;bracket 1 1;teams 3;players 9;contract 0 0 60 0 1 0 0;"
                + "contract 1 0 70 0 1 0 0;contract 2 1 101 0 1 0 0;contract 3 0 80 0 1 0 0;contract 4 1 110 0 1 0 0;");
        CHECK.is("P35: the first call of all", 3, () -> x.releaseSet(0));
        CHECK.is("P34: the other team after it", 2, () -> x.fewestReleases(1));
        CHECK.is("P35: the first team after P34 of the other one", 3, () -> x.releaseSet(0));
        CHECK.is("P35: the other team after it", 20, () -> x.releaseSet(1));
        CHECK.is("P34: the first team after P35 of the other one", 2, () -> x.fewestReleases(0));
        CHECK.is("P35: a team without players after it", 0, () -> x.releaseSet(2));
        x.release(3, false);
        CHECK.is("P35: after a release", 1, () -> x.releaseSet(0));
    }

    private static void endYears(SalaryCapLedger x, int years) {
        for (int k = 0; k < years; k++) {
            x.nextYear();
        }
    }
}
