/**
 * "4 SIGNING" and promises 7, 29, 30 and 31: each sentence that names a boundary case. A check's name begins with the
 * section or promise that it is for. Each due number was reckoned by hand.
 */
public final class SigningEdgesTest {
    private static final Check CHECK = new Check();
    private static final int NONE = SalaryCapLedger.NONE;
    /** Room 100 for team 0 and 1000 for team 1, 200 by mid-level, minimum 50. */
    private static final String TEXT = "league 1000 9000 0 200 50;bracket 10 100;teams 3;players 14;contract 0 0 900 0 5 0 0;";
    /** One, two and three years with team 0; nobody can be signed by the rules 0 to 2 with the offer of each test. */
    private static final String POOR = "league 1 9000 0 0 1;bracket 10 100;teams 3;players 14;"
            + "contract 0 0 50 0 1 0 0;contract 1 0 50 0 2 0 0;contract 2 0 50 0 3 0 0;";

    public static void main(String[] args) {
        firstOffer();
        room();
        roomUsedUp();
        roomOfAYear();
        midLevel();
        midLevelIsLeft();
        midLevelNone();
        minimum();
        ownPlayer();
        tenureGoesOn();
        tenureBeginsAgain();
        tenureOfATradedPlayer();
        tenureOfAReleasedPlayer();
        lastTeam();
        longestTenure();
        signReturns();
        signErrorsInOrder();
        signCodeTellsWhatSignWouldDo();
        bestRule();
        greatestBaseByRoom();
        greatestBaseByMidLevel();
        greatestBaseByMinimumAndTenure();
        greatestBaseWhereNobodySigns();
        greatestBaseIsTheGreatest();
        CHECK.finish("SigningEdgesTest");
    }

    private static void firstOffer() {
        SalaryCapLedger x = Check.league("league 1 1 0 1 1;bracket 1 1;teams 3;players 3;");
        CHECK.is("4 'at first these are 1, 0, 1, 0 and 0': signed by room", 1, () -> x.sign(0, 0, 0));
        CHECK.is("4 'at first': signed by mid-level", 1, () -> x.sign(1, 1, 1));
        CHECK.is("4 'at first': signed by minimum", 1, () -> x.sign(2, 2, 2));
        CHECK.is("4 'at first': one year", 1, () -> x.playerValue(0, 4));
        CHECK.is("4 'at first': no guaranteed year", 0, () -> x.playerValue(0, 5));
        CHECK.is("4 'at first': no bonus", 0, () -> x.playerValue(0, 6));
    }

    private static int code(SalaryCapLedger x, int rule, int base, int raise, int length, int bonus, int guaranteed) {
        x.makeOffer(base, raise, length, bonus, guaranteed);
        return x.signCode(0, 1, rule);
    }

    private static void room() {
        SalaryCapLedger x = Check.league(TEXT);
        CHECK.is("4 rule 0 'F is at most the room': F is the room", 0, () -> code(x, 0, 100, 0, 1, 0, 0));
        CHECK.is("4 rule 0: one above", -4, () -> code(x, 0, 101, 0, 1, 0, 0));
        CHECK.is("4 rule 0: the raise does not count", 0, () -> code(x, 0, 100, 20, 5, 0, 5));
        CHECK.is("4 rule 0 'F is the salary and the share': 66 and 34", 0, () -> code(x, 0, 66, 0, 5, 170, 0));
        CHECK.is("4 rule 0: the share of the first year has a unit of the remainder", -4, () -> code(x, 0, 66, 0, 5, 171, 0));
        CHECK.is("4 rule 0: the whole bonus in one year", 0, () -> code(x, 0, 1, 0, 1, 99, 0));
        CHECK.is("4 rule 0: the whole bonus in one year and one above", -4, () -> code(x, 0, 1, 0, 1, 100, 0));
        CHECK.is("4 rule 0: the least F", 0, () -> code(x, 0, 1, 0, 5, 0, 5));
        CHECK.is("4 rule 0: the greatest F", -4, () -> code(x, 0, 99999, 20, 1, 99999, 1));
        x.makeOffer(1000, 0, 5, 0, 0);
        CHECK.is("4 rule 0 'the room of the team': of this one", 0, () -> x.signCode(1, 1, 0));
        x.makeOffer(1001, 0, 5, 0, 0);
        CHECK.is("4 rule 0 'the room of the team': one above", -4, () -> x.signCode(1, 1, 0));
    }

    private static void roomUsedUp() {
        SalaryCapLedger x = Check.league(TEXT);
        x.makeOffer(100, 0, 2, 0, 0);
        CHECK.is("4 rule 0: signed at the limit", 1000, () -> x.sign(0, 1, 0));
        x.makeOffer(1, 0, 1, 0, 0);
        CHECK.is("4 rule 0: the room is 0", -4, () -> x.signCode(0, 2, 0));
        CHECK.is("4 rule 1: above the cap", 1001, () -> x.sign(0, 2, 1));
        CHECK.is("4 rule 0: the room is negative", -4, () -> x.signCode(0, 3, 0));
        CHECK.is("4 rule 2: above the cap", 1002, () -> x.sign(0, 3, 2));
    }

    private static void roomOfAYear() {
        SalaryCapLedger x = Check.league("league 100 100 100 0 1;bracket 1 1;teams 1;players 2;contract 0 0 50 20 2 0 0;");
        x.nextYear();
        x.makeOffer(50, 0, 1, 0, 0);
        CHECK.is("4 rule 0: 50 of the room 110 - 60 of year 1", 0, () -> x.signCode(0, 1, 0));
        x.makeOffer(51, 0, 1, 0, 0);
        CHECK.is("4 rule 0: 51 of the room 110 - 60 of year 1", -4, () -> x.signCode(0, 1, 0));
    }

    private static void midLevel() {
        SalaryCapLedger x = Check.league(TEXT);
        CHECK.is("4 rule 1 'F is at most what is left': all of it", 0, () -> code(x, 1, 200, 0, 1, 0, 0));
        CHECK.is("4 rule 1: one above", -4, () -> code(x, 1, 201, 0, 1, 0, 0));
        CHECK.is("4 rule 1 'the length is at most 3': 3", 0, () -> code(x, 1, 200, 20, 3, 0, 3));
        CHECK.is("4 rule 1 'the length is at most 3': 4", -4, () -> code(x, 1, 200, 20, 4, 0, 3));
        CHECK.is("4 rule 1 'the length is at most 3': 5", -4, () -> code(x, 1, 1, 0, 5, 0, 0));
        CHECK.is("4 rule 1: 166 and the share 34", 0, () -> code(x, 1, 166, 0, 3, 102, 0));
        CHECK.is("4 rule 1: 166 and the share 35, for the remainder", -4, () -> code(x, 1, 166, 0, 3, 103, 0));
    }

    private static void midLevelIsLeft() {
        SalaryCapLedger x = Check.league(TEXT);
        x.makeOffer(100, 20, 3, 100, 0);
        CHECK.is("4 rule 1: 100 and the share 34", 900 + 134, () -> x.sign(0, 1, 1));
        CHECK.is("4 'What is left decreases by F'", 66, () -> x.midLevel(0));
        CHECK.is("4 'what is left of the team': not of another one", 200, () -> x.midLevel(1));
        CHECK.is("4 rule 1: F is above what is left", -4, () -> x.sign(0, 2, 1));
        CHECK.is("4 rule 1: a refused call uses nothing", 66, () -> x.midLevel(0));
        x.makeOffer(67, 0, 1, 0, 0);
        CHECK.is("4 rule 1: one above what is left", -4, () -> x.signCode(0, 2, 1));
        x.makeOffer(66, 0, 1, 0, 0);
        CHECK.is("4 rule 1: what is left", 1100, () -> x.sign(0, 2, 1));
        CHECK.is("4 rule 1: nothing is left", 0, () -> x.midLevel(0));
        x.makeOffer(1, 0, 1, 0, 0);
        CHECK.is("4 rule 1: 1 of 0", -4, () -> x.signCode(0, 3, 1));
        CHECK.is("4 rule 2: uses no mid-level amount", 1101, () -> x.sign(0, 3, 2));
        CHECK.is("4 rule 0: signed by the room", 1, () -> x.sign(1, 4, 0));
        CHECK.is("4 rule 0: uses no mid-level amount", 200, () -> x.midLevel(1));
        CHECK.is("4 rule 1: another team's whole amount", 0, () -> x.signCode(2, 5, 1));
        x.release(1, false);
        CHECK.is("4 rule 1: a release gives nothing back", 0, () -> x.midLevel(0));
        x.nextYear();
        CHECK.is("4 'in this year': the next one has the whole amount", 200, () -> x.midLevel(0));
    }

    private static void midLevelNone() {
        SalaryCapLedger x = Check.league("league 1000 1000 0 0 50;bracket 1 1;teams 2;players 3;");
        CHECK.is("4 rule 1: an amount of 0", -4, () -> x.signCode(0, 1, 1));
        x.nextYear();
        CHECK.is("4 rule 1: an amount of 0 in the next year", -4, () -> x.signCode(0, 1, 1));
    }

    private static void minimum() {
        SalaryCapLedger x = Check.league(TEXT);
        CHECK.is("4 rule 2 'at most the minimum salary': it", 0, () -> code(x, 2, 50, 0, 1, 0, 0));
        CHECK.is("4 rule 2 'at most the minimum salary': less", 0, () -> code(x, 2, 1, 0, 1, 0, 0));
        CHECK.is("4 rule 2 'at most the minimum salary': one above", -4, () -> code(x, 2, 51, 0, 1, 0, 0));
        CHECK.is("4 rule 2 'the raise and the bonus are 0': raise 1", -4, () -> code(x, 2, 1, 1, 1, 0, 0));
        CHECK.is("4 rule 2 'the raise and the bonus are 0': bonus 1", -4, () -> code(x, 2, 1, 0, 2, 1, 0));
        CHECK.is("4 rule 2 'the length is at most 2': 2", 0, () -> code(x, 2, 50, 0, 2, 0, 2));
        CHECK.is("4 rule 2 'the length is at most 2': 3", -4, () -> code(x, 2, 50, 0, 3, 0, 0));
        SalaryCapLedger y = Check.league("league 1 1 0 0 99999;bracket 1 1;teams 1;players 3;contract 0 0 99999 0 1 0 0;");
        CHECK.is("4 rule 2: far above the cap", 0, () -> code(y, 2, 99999, 0, 2, 0, 0));
    }

    private static void ownPlayer() {
        SalaryCapLedger x = Check.league(POOR);
        x.makeOffer(99999, 20, 5, 99999, 5);
        CHECK.is("4 rule 3: a player without a last team", -4, () -> x.signCode(0, 3, 3));
        x.nextYear();
        CHECK.is("4 rule 3 'the tenure is at least 2': 1", -4, () -> x.signCode(0, 0, 3));
        x.nextYear();
        CHECK.is("4 rule 3 'the tenure is at least 2': 1 still", -4, () -> x.signCode(0, 0, 3));
        CHECK.is("4 rule 3 'the tenure is at least 2': 2", 0, () -> x.signCode(0, 1, 3));
        CHECK.is("4 rule 3 'the last team of the player': another one", -4, () -> x.signCode(1, 1, 3));
        CHECK.is("4 rule 3: nobody's last team is team 2", -4, () -> x.signCode(2, 1, 3));
        x.nextYear();
        CHECK.is("4 rule 3 'the tenure is at least 2': 3", 0, () -> x.signCode(0, 2, 3));
        CHECK.is("4 rule 3: of any length, raise, bonus and salary", 119999, () -> x.sign(0, 2, 3));
        CHECK.is("4 rule 3: the mid-level amount is left as it is", 0, () -> x.midLevel(0));
        CHECK.is("4 rule 3: a second one, far above the cap", 2 * 119999, () -> x.sign(0, 1, 3));
    }

    private static void tenureGoesOn() {
        SalaryCapLedger x = Check.league(POOR);
        x.nextYear();
        CHECK.is("4 'years that have ended while the player had a contract': one", 1, () -> x.playerValue(0, 2));
        x.nextYear();
        CHECK.is("4: a year without a contract does not count", 1, () -> x.playerValue(0, 2));
        CHECK.is("4: signed again by the last team, beside player 2", 51, () -> x.sign(0, 0, 2));
        CHECK.is("4 'it continues if the last team signs the player again'", 1, () -> x.playerValue(0, 2));
        x.makeOffer(500, 0, 1, 0, 0);
        x.nextYear();
        CHECK.is("4 'it continues': two years in all", 2, () -> x.playerValue(0, 2));
        CHECK.is("4 'it continues': the rule allows it", 0, () -> x.signCode(0, 0, 3));
    }

    private static void tenureBeginsAgain() {
        SalaryCapLedger x = Check.league(POOR);
        x.nextYear();
        x.nextYear();
        CHECK.is("4 'since the player was signed by another team': before", 2, () -> x.playerValue(1, 2));
        x.sign(1, 1, 2);
        CHECK.is("4 'since the player was signed by another team': 0", 0, () -> x.playerValue(1, 2));
        CHECK.is("4: the last team is the new one", 1, () -> x.playerValue(1, 1));
        x.nextYear();
        CHECK.is("4: a year with the new team", 1, () -> x.playerValue(1, 2));
        x.makeOffer(500, 0, 1, 0, 0);
        CHECK.is("4: the former team has no right any more", -4, () -> x.signCode(0, 1, 3));
        CHECK.is("4: the new team has none yet", -4, () -> x.signCode(1, 1, 3));
        x.makeOffer(1, 0, 1, 0, 0);
        x.sign(0, 1, 2);
        CHECK.is("4: back with the former team it is 0, too", 0, () -> x.playerValue(1, 2));
        x.undo();
        CHECK.is("4: undone", 1, () -> x.playerValue(1, 2));
        x.sign(2, 3, 2);
        CHECK.is("4: a player without a last team begins with 0", 0, () -> x.playerValue(3, 2));
    }

    private static void tenureOfATradedPlayer() {
        SalaryCapLedger x = Check.league(POOR);
        x.nextYear();
        CHECK.is("4: traded in year 1", 100, () -> x.trade(0, 2, 1, 0));
        CHECK.is("4 'and if the player is traded': it continues", 1, () -> x.playerValue(1, 2));
        x.nextYear();
        CHECK.is("4 'and if the player is traded': it grows", 2, () -> x.playerValue(1, 2));
        x.makeOffer(500, 0, 1, 0, 0);
        CHECK.is("4: the team that he went to is the last one", 0, () -> x.signCode(1, 1, 3));
        CHECK.is("4: the team that he came from is not", -4, () -> x.signCode(0, 1, 3));
    }

    private static void tenureOfAReleasedPlayer() {
        SalaryCapLedger x = Check.league(POOR);
        x.nextYear();
        x.nextYear();
        x.release(2, false);
        CHECK.is("4 'or was released': tenure 0", 0, () -> x.playerValue(2, 2));
        CHECK.is("4 'none after being released'", NONE, () -> x.playerValue(2, 1));
        x.makeOffer(500, 0, 1, 0, 0);
        CHECK.is("4 rule 3: not by the team that released", -4, () -> x.signCode(0, 2, 3));
        x.makeOffer(1, 0, 1, 0, 0);
        x.sign(0, 2, 2);
        CHECK.is("4: signed again by the team that released", 0, () -> x.playerValue(2, 2));
        x.nextYear();
        CHECK.is("4: a year with it", 1, () -> x.playerValue(2, 2));
    }

    private static void lastTeam() {
        SalaryCapLedger x = Check.league(POOR);
        CHECK.is("4 'has none at first'", NONE, () -> x.playerValue(3, 1));
        CHECK.is("4 'the one with which the player has a contract'", 0, () -> x.playerValue(0, 1));
        x.nextYear();
        CHECK.is("4 'or had a contract last'", 0, () -> x.playerValue(0, 1));
        CHECK.is("4: but no team", NONE, () -> x.playerValue(0, 0));
        x.sign(2, 0, 2);
        CHECK.is("4: the new team", 2, () -> x.playerValue(0, 1));
        x.release(0, true);
        CHECK.is("4 'none after being released', stretched", NONE, () -> x.playerValue(0, 1));
        x.undo();
        CHECK.is("4: a release undone", 2, () -> x.playerValue(0, 1));
    }

    private static void longestTenure() {
        SalaryCapLedger x = Check.league("league 99 99 0 0 1;bracket 1 1;teams 1;players 1;contract 0 0 9 0 5 0 0;");
        x.makeOffer(9, 0, 5, 0, 0);
        for (int year = 1; year <= 15; year++) {
            int years = year;
            x.nextYear();
            CHECK.is("4: tenure of " + year + " years", years, () -> x.playerValue(0, 2));
            if (year % 5 == 0) {
                CHECK.is("4 rule 3 in year " + year, 9, () -> x.sign(0, 0, 3));
            }
        }
    }

    private static void signReturns() {
        SalaryCapLedger x = Check.league(TEXT + "contract 5 0 10 0 2 7 0;");
        x.release(5, false);
        x.makeOffer(20, 20, 5, 11, 2);
        CHECK.is("P7 'Returns the charge in the present year afterwards', with dead money", 900 + 7 + 20 + 3, () -> x.sign(0, 1, 0));
        CHECK.is("P7: the team", 0, () -> x.playerValue(1, 0));
        CHECK.is("P7: the year number", 0, () -> x.playerValue(1, 3));
        CHECK.is("P7: the length", 5, () -> x.playerValue(1, 4));
        CHECK.is("P7: the guaranteed years", 2, () -> x.playerValue(1, 5));
        CHECK.is("P7: the bonus", 11, () -> x.playerValue(1, 6));
        CHECK.is("P7: the raise", 24, () -> x.salary(1, 1));
        x.makeOffer(1, 0, 1, 0, 0);
        CHECK.is("P7: a later offer leaves the contract", 24, () -> x.salary(1, 1));
    }

    private static SalaryCapLedger fullTeam() {
        StringBuilder text = new StringBuilder("league 100 100 0 0 1;bracket 1 1;teams 2;players 14;");
        for (int k = 0; k < 12; k++) {
            text.append("contract ").append(k).append(" 0 1 0 1 0 0;");
        }
        return Check.league(text.toString());
    }

    private static void signErrorsInOrder() {
        SalaryCapLedger x = fullTeam();
        x.makeOffer(99999, 0, 1, 0, 0);
        for (int rule = 0; rule < 4; rule++) {
            int by = rule;
            CHECK.is("P7: -2 before -3 and -4, rule " + rule, -2, () -> x.sign(0, 0, by));
            CHECK.is("P7: -2 for another team, rule " + rule, -2, () -> x.sign(1, 0, by));
            CHECK.is("P7: -3 before -4, rule " + rule, -3, () -> x.sign(0, 12, by));
            CHECK.is("P7: -4, rule " + rule, -4, () -> x.sign(1, 12, by));
        }
        CHECK.illegal("P7: out of range before -2", () -> x.sign(0, 0, 4));
        CHECK.illegal("P7: out of range before -3", () -> x.sign(0, 12, -1));
        x.makeOffer(1, 0, 1, 0, 0);
        CHECK.is("P7: -3 although the rule allows it", -3, () -> x.sign(0, 12, 0));
        x.release(11, false);
        CHECK.is("P7: eleven players, signed as the twelfth", 12, () -> x.sign(0, 12, 0));
        CHECK.is("P7: -3 again", -3, () -> x.sign(0, 13, 0));
    }

    private static void signCodeTellsWhatSignWouldDo() {
        SalaryCapLedger x = fullTeam();
        for (int base : new int[] {1, 100, 101}) {
            x.makeOffer(base, 0, 1, 0, 0);
            for (int k = 0; k < 2 * 14 * 4; k++) {
                int team = k / 56;
                int player = k / 4 % 14;
                int rule = k % 4;
                int told = x.signCode(team, player, rule);
                SalaryCapLedger y = fullTeam();
                y.makeOffer(base, 0, 1, 0, 0);
                int done = y.sign(team, player, rule);
                CHECK.is("P29 'Tells what sign() would do'", Math.min(done, 0), () -> told);
            }
        }
        CHECK.is("P29: it signs nobody", NONE, () -> x.playerValue(12, 0));
    }

    private static void bestRule() {
        SalaryCapLedger x = Check.league(TEXT);
        best(x, "P30 'the lowest rule': room, though all but one would do", 0, 50, 0, 2, 0);
        best(x, "P30: room at its limit", 0, 100, 0, 1, 0);
        best(x, "P30: mid-level, one above the room", 1, 101, 0, 3, 0);
        best(x, "P30: mid-level at its limit", 1, 200, 0, 3, 0);
        best(x, "P30 '-2 if there is none': one above", -2, 201, 0, 3, 0);
        best(x, "P30 '-2 if there is none': too long for mid-level", -2, 101, 0, 4, 0);
        x.makeOffer(200, 0, 3, 0, 0);
        x.sign(0, 2, 1);
        best(x, "P30: minimum, without room and amount", 2, 50, 0, 2, 0);
        best(x, "P30 '-2 if there is none': above the minimum", -2, 51, 0, 2, 0);
        best(x, "P30 '-2 if there is none': a bonus", -2, 50, 0, 2, 1);
        CHECK.is("P30: a player with a contract", -2, () -> x.bestRule(0, 0));
        CHECK.is("P30: a full team", -2, () -> fullTeam().bestRule(0, 12));
        CHECK.is("P30: a team that is not full", 0, () -> fullTeam().bestRule(1, 12));
        SalaryCapLedger own = Check.league(POOR);
        own.nextYear();
        own.nextYear();
        own.makeOffer(1, 1, 5, 0, 0);
        CHECK.is("P30: own player alone", 3, () -> own.bestRule(0, 1));
        CHECK.is("P30: not of another team", 0, () -> own.bestRule(1, 1));
        own.makeOffer(1, 0, 2, 0, 0);
        CHECK.is("P30: minimum before own player", 2, () -> own.bestRule(0, 1));
        own.makeOffer(2, 0, 2, 0, 0);
        CHECK.is("P30: own player alone, above the minimum", 3, () -> own.bestRule(0, 1));
        CHECK.is("P30: too short a tenure", -2, () -> own.bestRule(0, 0));
    }

    private static void best(SalaryCapLedger x, String what, int due, int base, int raise, int length, int bonus) {
        x.makeOffer(base, raise, length, bonus, 0);
        CHECK.is(what, due, () -> x.bestRule(0, 1));
    }

    /** Of team 0; the base salary of the offer itself is of no meaning. */
    private static int greatest(SalaryCapLedger x, int rule, int raise, int length, int bonus) {
        x.makeOffer(99999, raise, length, bonus, 0);
        int high = x.greatestBase(0, 1, rule);
        x.makeOffer(1, raise, length, bonus, 0);
        int low = x.greatestBase(0, 1, rule);
        return high == low ? high : -1000;
    }

    private static void greatestBaseByRoom() {
        SalaryCapLedger x = Check.league(TEXT);
        CHECK.is("P31 rule 0: the room", 100, () -> greatest(x, 0, 20, 5, 0));
        CHECK.is("P31 rule 0: less the share", 66, () -> greatest(x, 0, 0, 5, 170));
        CHECK.is("P31 rule 0: less the share with a remainder", 65, () -> greatest(x, 0, 0, 5, 171));
        CHECK.is("P31 'Returns 1 to 99999': 1", 1, () -> greatest(x, 0, 0, 1, 99));
        CHECK.is("P31 '-2 if there is none': 0 is left", -2, () -> greatest(x, 0, 0, 1, 100));
        CHECK.is("P31 '-2 if there is none': less than 0 is left", -2, () -> greatest(x, 0, 0, 1, 99999));
        SalaryCapLedger at = Check.league("league 99999 1 0 0 1;bracket 1 1;teams 1;players 2;");
        CHECK.is("P31 'Returns 1 to 99999': the room is 99999", 99999, () -> greatest(at, 0, 0, 1, 0));
        CHECK.is("P31 'Returns 1 to 99999': 99998", 99998, () -> greatest(at, 0, 0, 1, 1));
        SalaryCapLedger above = Check.league("league 100000 1 0 0 1;bracket 1 1;teams 1;players 2;");
        CHECK.is("P31 'Returns 1 to 99999': the room is 100000", 99999, () -> greatest(above, 0, 0, 1, 0));
        SalaryCapLedger full = Check.league("league 50 1 0 0 1;bracket 1 1;teams 1;players 2;contract 0 0 50 0 1 0 0;");
        CHECK.is("P31 '-2 if there is none': the room is 0", -2, () -> greatest(full, 0, 0, 1, 0));
        SalaryCapLedger over = Check.league("league 50 1 0 0 1;bracket 1 1;teams 1;players 2;contract 0 0 99 0 1 0 0;");
        CHECK.is("P31 '-2 if there is none': the room is negative", -2, () -> greatest(over, 0, 0, 1, 0));
    }

    private static void greatestBaseByMidLevel() {
        SalaryCapLedger x = Check.league(TEXT);
        CHECK.is("P31 rule 1: the amount", 200, () -> greatest(x, 1, 20, 3, 0));
        CHECK.is("P31 rule 1: less the share", 166, () -> greatest(x, 1, 0, 3, 102));
        CHECK.is("P31 rule 1: less the share with a remainder", 165, () -> greatest(x, 1, 0, 3, 103));
        CHECK.is("P31 rule 1: four years", -2, () -> greatest(x, 1, 0, 4, 0));
        CHECK.is("P31 rule 1: 1 is left", 1, () -> greatest(x, 1, 0, 2, 398));
        CHECK.is("P31 rule 1: nothing is left", -2, () -> greatest(x, 1, 0, 2, 399));
        x.makeOffer(150, 0, 1, 0, 0);
        x.sign(0, 2, 1);
        CHECK.is("P31 rule 1 'what is left'", 50, () -> greatest(x, 1, 0, 3, 0));
        SalaryCapLedger most = Check.league("league 1 1 0 99999 1;bracket 1 1;teams 1;players 2;");
        CHECK.is("P31 rule 1: the greatest amount", 99999, () -> greatest(most, 1, 0, 3, 0));
    }

    private static void greatestBaseByMinimumAndTenure() {
        SalaryCapLedger x = Check.league(TEXT);
        CHECK.is("P31 rule 2: the minimum salary", 50, () -> greatest(x, 2, 0, 2, 0));
        CHECK.is("P31 rule 2: a raise", -2, () -> greatest(x, 2, 1, 2, 0));
        CHECK.is("P31 rule 2: a bonus", -2, () -> greatest(x, 2, 0, 2, 1));
        CHECK.is("P31 rule 2: three years", -2, () -> greatest(x, 2, 0, 3, 0));
        CHECK.is("P31 rule 3: no last team", -2, () -> greatest(x, 3, 0, 3, 0));
        SalaryCapLedger most = Check.league("league 1 1 0 0 99999;bracket 1 1;teams 1;players 2;");
        CHECK.is("P31 rule 2: the greatest minimum salary", 99999, () -> greatest(most, 2, 0, 1, 0));
        SalaryCapLedger own = Check.league(POOR);
        own.nextYear();
        CHECK.is("P31 rule 3: tenure 1", -2, () -> own.greatestBase(0, 0, 3));
        own.nextYear();
        CHECK.is("P31 rule 3: tenure 2, whatever the room is", 99999, () -> greatest(own, 3, 20, 5, 99999));
        CHECK.is("P31 rule 3: another team", -2, () -> own.greatestBase(1, 1, 3));
        CHECK.is("P31 rule 3: tenure 1 still", -2, () -> own.greatestBase(0, 0, 3));
    }

    private static void greatestBaseWhereNobodySigns() {
        for (int rule = 0; rule < 4; rule++) {
            int by = rule;
            CHECK.is("P31: a player with a contract, rule " + rule, -2, () -> Check.league(TEXT).greatestBase(1, 0, by));
            CHECK.is("P31: a full team, rule " + rule, -2, () -> fullTeam().greatestBase(0, 12, by));
        }
    }

    /** With the answer the rule allows it, with one more it does not. */
    private static void greatestBaseIsTheGreatest() {
        int[][] terms = {{0, 1, 0}, {0, 2, 0}, {20, 3, 100}, {0, 3, 400}, {5, 5, 333}, {0, 1, 150}};
        for (int[] other : terms) {
            for (int rule = 0; rule < 4; rule++) {
                int by = rule;
                SalaryCapLedger x = Check.league(TEXT);
                x.makeOffer(7, other[0], other[1], other[2], 0);
                int most = x.greatestBase(0, 1, rule);
                x.makeOffer(Math.max(1, most), other[0], other[1], other[2], 0);
                CHECK.is("P31: the greatest base is allowed", most > 0 ? 0 : -4, () -> x.signCode(0, 1, by));
                x.makeOffer(Math.max(1, most + 1), other[0], other[1], other[2], 0);
                CHECK.is("P31: one more is not", -4, () -> x.signCode(0, 1, by));
            }
        }
    }
}
