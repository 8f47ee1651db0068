import java.util.ArrayList;
import java.util.List;
import java.util.NoSuchElementException;
import java.util.Random;

/**
 * Where two sentences of the document meet. First by hand: a trade and a later release or end of a contract, a released
 * player and his tenure, refused calls and undo(), a wrong text over a league, the years ahead of year 15. Then in leagues
 * drawn from fixed seeds: each query of what would be is compared with the action itself, done and undone.
 */
public final class MeetingTest {
    private static final Check CHECK = new Check();
    private static final int NONE = SalaryCapLedger.NONE;
    private static final int DRAWN = 150;
    private static final int TEAMS = 3;
    private static final int PLAYERS = 9;
    private static final int LAST_YEAR = 15;

    /** Charges of year 0: team 0 has 534 and 207, team 1 has 426 and 300. */
    private static final String TEXT = "league 1000 1200 100 200 50;bracket 100 150;bracket 100 300;teams 3;players 8;"
            + "contract 0 0 500 10 3 100 2;contract 1 1 400 0 2 51 2;contract 2 1 300 5 4 0 3;contract 3 0 200 0 1 7 0;";

    public static void main(String[] args) {
        tradeAndRelease();
        tradeAndStretchedRelease();
        tradeAndTradeBack();
        tradeAndEndOfContract();
        tradeAndTenure();
        releaseAndSignAgain();
        releaseAndRuleThree();
        releaseOfAReleasedPlayer();
        endOfContractAndUndo();
        deadMoneyAndLaterYears();
        refusedCallsAndUndo();
        midLevelUndoAndYears();
        taxesAndUndo();
        taxAndTradeInOneYear();
        wrongTextOverALeague();
        rightTextOverALeague();
        yearFifteen();
        taxesBeyondYearFifteen();
        for (int seed = 0; seed < DRAWN; seed++) {
            compareWithActions(seed);
        }
        CHECK.finish("MeetingTest");
    }

    private static SalaryCapLedger league() {
        return Check.league(TEXT);
    }

    // ---- trades and what comes after them

    private static SalaryCapLedger traded() {
        SalaryCapLedger x = league();
        CHECK.is("6: 207, 400 and 100 of dead money; 500, 300 and 51", 707 + 851, () -> x.trade(0, 1, 1, 2));
        return x;
    }

    private static void tradeAndRelease() {
        SalaryCapLedger x = traded();
        CHECK.is("6, 3 'no shares any more': in no later year", 550 + 315, () -> x.charge(1, 1));
        CHECK.is("6, P24: no shares left", 0, () -> x.playerValue(0, 6));
        CHECK.is("6, P24: the guaranteed years stay", 2, () -> x.playerValue(0, 5));
        CHECK.is("7: no tax", 0, () -> x.nextYear());
        CHECK.is("5: year 1 alone is guaranteed still", 550, () -> x.releaseCost(0, false, 0));
        CHECK.is("5: not year 2", 0, () -> x.releaseCost(0, false, 1));
        CHECK.is("5: 550 of salary for 550 of dead money", 0, () -> x.releaseGain(0, false));
        CHECK.is("5: without shares", 550, () -> x.release(0, false));
        CHECK.is("5 'dead money of the team': the present one's", 550, () -> x.deadMoney(1, 0));
        CHECK.is("5: not of the former one", 0, () -> x.deadMoney(0, 0));
        CHECK.is("3: 550 and 315", 865, () -> x.charge(1, 0));
        CHECK.is("P40: the trade and the year are left", 2, () -> x.undo());
        CHECK.is("P40: he is back", 1, () -> x.playerValue(0, 0));
        CHECK.is("P40: with his tenure", 1, () -> x.playerValue(0, 2));
        x.undo();
        CHECK.is("P40: the trade is undone", 0, () -> x.undo());
        CHECK.is("P40: the shares are back", 100, () -> x.playerValue(0, 6));
        CHECK.is("P40: at the former team", 741, () -> x.charge(0, 0));
        CHECK.is("P40: without dead money", 0, () -> x.deadMoney(0, 0));
    }

    private static void tradeAndStretchedRelease() {
        SalaryCapLedger x = traded();
        x.nextYear();
        CHECK.is("5: 550 over 2 * (3 - 1) + 1 years", 550, () -> x.release(0, true));
        for (int k = 0; k < 12; k++) {
            int ahead = k;
            CHECK.is("5: year " + k + " of the five", k < 5 ? 110 : 0, () -> x.deadMoney(1, ahead));
            CHECK.is("5: the former team pays nothing", 0, () -> x.deadMoney(0, ahead));
        }
    }

    private static void tradeAndTradeBack() {
        SalaryCapLedger x = traded();
        CHECK.is("6: back, without shares, but with the dead money", 807 + 751, () -> x.trade(1, 1, 0, 2));
        CHECK.is("6: the shares became dead money once", 100, () -> x.deadMoney(0, 0));
        CHECK.is("6: of both teams", 51, () -> x.deadMoney(1, 0));
        CHECK.is("3: they do not come back with him", 0, () -> x.share(0, 1));
        CHECK.is("5: 500 and 550", 1050, () -> x.release(0, false));
        CHECK.is("5: beside what the trade left", 600, () -> x.deadMoney(0, 0));
        CHECK.is("5: in its own year", 550, () -> x.deadMoney(0, 1));
        x.nextYear();
        CHECK.is("5: one year later", 550, () -> x.deadMoney(0, 0));
        CHECK.is("6: the trade's dead money was of year 0 alone", 0, () -> x.deadMoney(1, 0));
    }

    private static void tradeAndEndOfContract() {
        SalaryCapLedger x = league();
        CHECK.is("6: one for nobody", 541 + 926, () -> x.trade(0, 8, 1, 0));
        x.nextYear();
        CHECK.is("7: the contract is over", NONE, () -> x.playerValue(3, 0));
        CHECK.is("4 'had a contract last': the team that he was traded to", 1, () -> x.playerValue(3, 1));
        CHECK.is("4: one year, though begun with another team", 1, () -> x.playerValue(3, 2));
        CHECK.is("4 rule 3: not the team that traded him away", -4, () -> x.signCode(0, 3, 3));
        x.makeOffer(10, 0, 1, 0, 0);
        CHECK.is("4: signed again by the last team, 740 before", 750, () -> x.sign(1, 3, 0));
        CHECK.is("4 'it continues'", 1, () -> x.playerValue(3, 2));
        x.nextYear();
        CHECK.is("4 rule 3: two years with two teams", 0, () -> x.signCode(1, 3, 3));
        CHECK.is("4 rule 3: not with the first one", -4, () -> x.signCode(0, 3, 3));
        CHECK.is("4: signed by the first one, 633 before", 643, () -> x.sign(0, 3, 2));
        CHECK.is("4 'signed by another team than the last one'", 0, () -> x.playerValue(3, 2));
        x.undo();
        CHECK.is("P40: the tenure is back", 2, () -> x.playerValue(3, 2));
        CHECK.is("P40: and the last team", 1, () -> x.playerValue(3, 1));
    }

    private static void tradeAndTenure() {
        SalaryCapLedger x = league();
        x.nextYear();
        x.nextYear();
        CHECK.is("6: in year 2, when the others are over", 633 - 600 + 330 + 600, () -> x.trade(0, 1, 1, 4));
        CHECK.is("6: the share of year 2", 33, () -> x.deadMoney(0, 0));
        CHECK.is("4 'and if the player is traded'", 2, () -> x.playerValue(0, 2));
        x.nextYear();
        CHECK.is("7: over after year 2", NONE, () -> x.playerValue(0, 0));
        CHECK.is("7: player 2 has his last year", 3, () -> x.playerValue(2, 3));
        CHECK.is("4 rule 3: three years, the last team is the new one", 0, () -> x.signCode(1, 0, 3));
        CHECK.is("4 rule 3: not the old one", -4, () -> x.signCode(0, 0, 3));
    }

    // ---- releases and what comes after them

    private static void releaseAndSignAgain() {
        SalaryCapLedger x = league();
        CHECK.is("5: 51, 400 and 400", 851, () -> x.release(1, false));
        x.makeOffer(50, 0, 2, 0, 0);
        CHECK.is("4: by the same team in the same year: 451, 300 and 50", 801, () -> x.sign(1, 1, 2));
        CHECK.is("4: tenure 0", 0, () -> x.playerValue(1, 2));
        x.nextYear();
        CHECK.is("5: dead money and salary of one player: 400, 315 and 50", 765, () -> x.charge(1, 0));
        CHECK.is("4: tenure 1", 1, () -> x.playerValue(1, 2));
        x.nextYear();
        CHECK.is("4 rule 3: two years since he was released", 0, () -> x.signCode(1, 1, 3));
        CHECK.is("5: his dead money is over", 0, () -> x.deadMoney(1, 0));
    }

    private static void releaseAndRuleThree() {
        SalaryCapLedger x = league();
        x.nextYear();
        x.nextYear();
        x.nextYear();
        CHECK.is("4: three years", 3, () -> x.playerValue(2, 2));
        CHECK.is("5 'none if G is at most i'", 0, () -> x.release(2, false));
        CHECK.is("4: none of them counts", 0, () -> x.playerValue(2, 2));
        CHECK.is("4 rule 3: not after a release", -4, () -> x.signCode(1, 2, 3));
        x.sign(1, 2, 2);
        x.nextYear();
        CHECK.is("4 rule 3: one year", -4, () -> x.signCode(1, 2, 3));
        CHECK.is("4: one year since then", 1, () -> x.playerValue(2, 2));
        x.undo();
        x.undo();
        CHECK.is("P40: the release", 3, () -> x.undo());
        CHECK.is("P40: three years again", 3, () -> x.playerValue(2, 2));
        CHECK.is("P40: the last team again", 1, () -> x.playerValue(2, 1));
    }

    private static void releaseOfAReleasedPlayer() {
        SalaryCapLedger x = league();
        x.release(3, true);
        CHECK.is("P8 '-2'", -2, () -> x.release(3, true));
        CHECK.is("P32 '-2'", -2, () -> x.releaseCost(3, false, 0));
        CHECK.is("P33 '0 also'", 0, () -> x.releaseGain(3, true));
        CHECK.is("P24: no year number", -2, () -> x.playerValue(3, 3));
        CHECK.is("6: he can not be traded", -3, () -> x.trade(0, 8, 1, 0));
        CHECK.is("P27: three players are ranked", 2, () -> x.playerRank(2));
        CHECK.refuses("P27: not the fourth", NoSuchElementException.class, () -> x.playerRank(3));
        CHECK.is("5: his share stays", 534 + 7, () -> x.charge(0, 0));
        CHECK.is("P28: the mean does not know dead money", 500, () -> x.meanSalary(0));
    }

    private static void deadMoneyAndLaterYears() {
        SalaryCapLedger x = league();
        x.release(0, true);
        CHECK.is("5: 1050 over seven years, and 100", 250, () -> x.deadMoney(0, 0));
        for (int year = 1; year <= 7; year++) {
            x.nextYear();
            int due = year < 7 ? 150 : 0;
            int now = year;
            CHECK.is("5: dead money of year " + now, due, () -> x.deadMoney(0, 0));
            CHECK.is("5: seen from year " + now, now < 7 ? 150 : 0, () -> x.deadMoney(0, Math.max(0, 6 - now)));
            CHECK.is("P34: room enough", 0, () -> x.fewestReleases(0));
        }
    }

    private static void endOfContractAndUndo() {
        SalaryCapLedger x = league();
        x.nextYear();
        CHECK.is("P28: nobody but player 0", 550, () -> x.meanSalary(0));
        CHECK.is("P22: without player 3", 1, () -> x.roster(0));
        CHECK.is("P40", 0, () -> x.undo());
        CHECK.is("P22: with player 3", 9, () -> x.roster(0));
        CHECK.is("P26: his share", 7, () -> x.share(3, 0));
        CHECK.is("P24: his tenure", 0, () -> x.playerValue(3, 2));
        CHECK.is("P24: his last year", 1, () -> x.playerValue(3, 4));
    }

    // ---- refused calls, years, undo

    private static void refusedCallsAndUndo() {
        SalaryCapLedger x = league();
        x.makeOffer(700, 0, 1, 0, 0);
        CHECK.is("4: the room is 259", -4, () -> x.sign(0, 4, 0));
        CHECK.is("P8", -2, () -> x.release(4, true));
        CHECK.is("P9", -2, () -> x.trade(0, 0, 1, 0));
        CHECK.is("P9", -3, () -> x.trade(0, 2, 1, 0));
        CHECK.is("P9: 1226 is above the cap, 500 above the limit 100", -6, () -> x.trade(0, 1, 1, 0));
        CHECK.is("P9: the other way round", -5, () -> x.trade(1, 0, 0, 1));
        CHECK.illegal("P6: refused", () -> x.makeOffer(0, 0, 1, 0, 0));
        CHECK.illegal("P9: refused", () -> x.trade(0, 1, 0, 2));
        CHECK.is("P40: the offer is the latest action", 0, () -> x.undo());
        CHECK.is("P40: the first offer", 1, () -> x.offer(0));
        CHECK.is("P40: no action", -2, () -> x.undo());
        CHECK.is("P7: by the first offer", 742, () -> x.sign(0, 4, 0));
        CHECK.is("P7: a refused one behind it", -2, () -> x.sign(1, 4, 0));
        CHECK.is("P40: the signing", 0, () -> x.undo());
        CHECK.is("P40: he has no contract", NONE, () -> x.playerValue(4, 0));
        CHECK.is("P40: a refused undo changes nothing", -2, () -> x.undo());
        CHECK.is("P40: the charge of the text", 741, () -> x.charge(0, 0));
    }

    private static void midLevelUndoAndYears() {
        SalaryCapLedger x = league();
        x.makeOffer(120, 0, 3, 9, 0);
        CHECK.is("4 rule 1: 120 and 3", 741 + 123, () -> x.sign(0, 4, 1));
        CHECK.is("4: 77 left", 77, () -> x.midLevel(0));
        CHECK.is("P31: 77 less the share", 74, () -> x.greatestBase(0, 5, 1));
        CHECK.is("4 rule 1: too much", -4, () -> x.sign(0, 5, 1));
        x.release(4, false);
        CHECK.is("4: a release gives nothing back", 77, () -> x.midLevel(0));
        x.nextYear();
        CHECK.is("7 'the whole mid-level amount'", 200, () -> x.midLevel(0));
        x.undo();
        CHECK.is("P40: what was left", 77, () -> x.midLevel(0));
        x.undo();
        x.undo();
        CHECK.is("P40: the whole amount", 200, () -> x.midLevel(0));
        CHECK.is("P40: the offer is not undone yet", 120, () -> x.offer(0));
    }

    private static void taxesAndUndo() {
        SalaryCapLedger x = Check.league("league 50 60 0 0 1;bracket 10 100;bracket 1 200;teams 2;players 2;contract 0 1 75 0 5 0 0;");
        CHECK.is("7: 10 and 5 * 200 / 100", 20, () -> x.nextYear());
        CHECK.is("P19", 20, () -> x.paid(1));
        x.undo();
        CHECK.is("P40: not paid", 0, () -> x.paid(1));
        CHECK.is("P40: not taxed", 0, () -> x.taxedYears(1));
        CHECK.is("7: paid once more", 20, () -> x.nextYear());
        x.nextYear();
        x.nextYear();
        CHECK.is("7 'in at least 3 of the 4 years before'", 35, () -> x.tax(1));
        CHECK.is("P20", 7, () -> x.taxedYears(1));
        x.undo();
        CHECK.is("P40: two years taxed", 20, () -> x.tax(1));
        CHECK.is("P39: 20 now, 35 then", 90, () -> x.taxAhead(1, 3));
        x.release(0, true);
        CHECK.is("P39: nothing after a release", 0, () -> x.taxAhead(1, 8));
        x.undo();
        x.trade(1, 1, 0, 0);
        CHECK.is("7: the years taxed are the team's", 3, () -> x.taxedYears(1));
        CHECK.is("7: not the player's", 0, () -> x.taxedYears(0));
    }

    private static void taxAndTradeInOneYear() {
        SalaryCapLedger x = Check.league("league 900 100 0 0 1;bracket 100 100;teams 2;players 2;"
                + "contract 0 0 90 0 2 40 0;contract 1 1 95 0 2 9 0;");
        CHECK.is("7: 110 is above the line", 10, () -> x.tax(0));
        CHECK.is("7: 100 is not", 0, () -> x.tax(1));
        CHECK.is("6: 40 and 95; 9 and 90", 135 + 99, () -> x.trade(0, 1, 1, 2));
        CHECK.is("7: the dead money of the trade is taxed", 35, () -> x.tax(0));
        CHECK.is("P39: not in year 1, nor the salary", 35, () -> x.taxAhead(0, 2));
        CHECK.is("P23: by tax", 0, () -> x.teamRank(3, 0));
        CHECK.is("P10", 35, () -> x.nextYear());
        CHECK.is("P20", 1, () -> x.taxedYears(0));
    }

    // ---- texts over a league

    private static void wrongTextOverALeague() {
        wrongText("", -11, 0);
        wrongText(TEXT + "contract 4", -11, TEXT.length() + 10);
        wrongText(TEXT + "contract 4 2 1 0 1 0 0; contract 4 2 1 0 1 0 0;", -14, TEXT.length() + 33);
        wrongText("league 9 9 0 0 1;bracket 1 1;teams 1;players 9;contract 9", -12, 56);
        wrongText("league 9 9 0 0 1;bracket 1 1;bracket 1 1;bracket 1 1;bracket 1 1;bracket", -13, 65);
    }

    private static void wrongText(String text, int due, int at) {
        SalaryCapLedger x = traded();
        x.makeOffer(60, 1, 2, 3, 1);
        Check.feed(x, text);
        CHECK.is("2: " + text, due, () -> x.load());
        CHECK.is("P5: " + text, at, () -> x.errorPosition());
        CHECK.illegal("P4 'The buffer is empty afterwards in every case'", () -> x.truncate(1));
        CHECK.is("P4: the league stays", 707, () -> x.charge(0, 0));
        CHECK.is("P4: its offer stays", 60, () -> x.offer(0));
        CHECK.is("P4: its cap stays", 1100, () -> x.cap(1));
        CHECK.illegal("P4: its three teams stay", () -> x.room(3));
        CHECK.illegal("P4: its eight players stay", () -> x.salary(8, 0));
        CHECK.is("P4: what can be undone stays", 1, () -> x.undo());
        CHECK.is("P40: the offer before the wrong text", 1, () -> x.offer(0));
        CHECK.is("P40: the trade before it", 0, () -> x.undo());
        CHECK.is("P40: the charge of the text before it", 741, () -> x.charge(0, 0));
        CHECK.is("P40 'except errorPosition()'", at, () -> x.errorPosition());
    }

    private static void rightTextOverALeague() {
        SalaryCapLedger x = traded();
        x.makeOffer(60, 1, 2, 3, 1);
        x.release(2, true);
        x.nextYear();
        Check.feed(x, "wrong");
        x.load();
        Check.feed(x, TEXT);
        CHECK.is("P4: the same text again", 4, () -> x.load());
        CHECK.is("P5: no error now", NONE, () -> x.errorPosition());
        CHECK.is("P4: nothing to undo", -2, () -> x.undo());
        SalaryCapLedger fresh = league();
        for (int k = 0; k < 12; k++) {
            int ahead = k;
            CHECK.is("P4: charge", fresh.charge(0, k), () -> x.charge(0, ahead));
            CHECK.is("P4: no dead money", 0, () -> x.deadMoney(1, ahead));
        }
        CHECK.is("P4: year 0", 0, () -> x.year());
        CHECK.is("P4: tenure 0", 0, () -> x.playerValue(0, 2));
        CHECK.is("P4: the team of the text", 0, () -> x.playerValue(0, 1));
        CHECK.is("4: the first offer", 1, () -> x.offer(0));
    }

    // ---- the last year

    private static void yearFifteen() {
        SalaryCapLedger x = league();
        for (int k = 0; k < LAST_YEAR; k++) {
            x.nextYear();
        }
        long cap = 1000;
        for (int k = 0; k < LAST_YEAR; k++) {
            cap = cap * 1100 / 1000;
        }
        for (int k = 0; k < 12; k++) {
            int ahead = k;
            CHECK.is("3: cap of year " + (LAST_YEAR + k), cap, () -> x.cap(ahead));
            cap = cap * 1100 / 1000;
        }
        x.makeOffer(300, 20, 5, 11, 5);
        CHECK.is("P7 in year 15: 300 and 3", 303, () -> x.sign(0, 0, 0));
        CHECK.is("P10 '-2'", -2, () -> x.nextYear());
        CHECK.is("3: year 19", 540 + 2, () -> x.charge(0, 4));
        CHECK.is("3: year 20", 0, () -> x.charge(0, 5));
        CHECK.is("P25: year 26", 0, () -> x.salary(0, 11));
        CHECK.is("P32: 2100 over eleven years, and 11", 191 + 11, () -> x.releaseCost(0, true, 0));
        CHECK.is("P8 in year 15", 2111, () -> x.release(0, true));
        CHECK.is("5: ten of 191", 191, () -> x.deadMoney(0, 9));
        CHECK.is("5: one of 190", 190, () -> x.deadMoney(0, 10));
        CHECK.is("5: none in year 26", 0, () -> x.deadMoney(0, 11));
        CHECK.is("P10 '-2' again", -2, () -> x.nextYear());
        CHECK.is("P40: nine more", 9, () -> x.undo());
        CHECK.is("P40: he is back", 303, () -> x.charge(0, 0));
        x.undo();
        x.undo();
        CHECK.is("P40: the end of year 14", 6, () -> x.undo());
        CHECK.is("P11: year 14", 14, () -> x.year());
        CHECK.is("P10: it ends again", 0, () -> x.nextYear());
    }

    private static void taxesBeyondYearFifteen() {
        SalaryCapLedger x = Check.league("league 9 1 0 0 1;bracket 1 100;teams 1;players 1;");
        for (int k = 0; k < LAST_YEAR; k++) {
            x.nextYear();
        }
        x.makeOffer(9, 0, 5, 0, 5);
        CHECK.is("P7: all of the room", 9, () -> x.sign(0, 0, 0));
        int[] due = {8, 16, 24, 40, 56, 56, 56, 56};
        for (int k = 0; k < due.length; k++) {
            int years = k + 1;
            CHECK.is("P39 'even if the present year would be above 15': " + years + " years", due[k], () -> x.taxAhead(0, years));
        }
        CHECK.is("P10", -2, () -> x.nextYear());
        CHECK.is("P20: year 15 has not ended", 0, () -> x.taxedYears(0));
    }

    // ---- what would be, and what is

    private static void compareWithActions(long seed) {
        Snapshot.Scene scene = () -> drawn(new Random(seed));
        compareSignings(scene, "seed " + seed + ", ");
        compareReleases(scene, "seed " + seed + ", ");
        compareReleaseSets(scene, "seed " + seed + ", ");
        compareSwaps(scene, "seed " + seed + ", ");
        compareYears(scene, "seed " + seed + ", ");
    }

    private static SalaryCapLedger drawn(Random random) {
        int scale = 20 + random.nextInt(200);
        StringBuilder text = new StringBuilder("league " + scale * (1 + random.nextInt(5)) + " " + scale * (1 + random.nextInt(5)));
        text.append(" ").append(random.nextInt(201)).append(" ").append(scale).append(" ").append(1 + scale / 4).append(";");
        for (int k = random.nextInt(4); k >= 0; k--) {
            text.append("bracket ").append(1 + random.nextInt(scale)).append(" ").append(random.nextInt(901)).append(";");
        }
        text.append("teams " + TEAMS + ";players " + PLAYERS + ";");
        for (int player = 0; player < PLAYERS - 2; player++) {
            int length = 1 + random.nextInt(5);
            text.append("contract ").append(player).append(" ").append(random.nextInt(2)).append(" ");
            text.append(1 + random.nextInt(scale)).append(" ").append(random.nextInt(21)).append(" ").append(length);
            text.append(" ").append(random.nextInt(scale)).append(" ").append(random.nextInt(length + 1)).append(";");
        }
        SalaryCapLedger x = Check.league(text.toString());
        for (int k = random.nextInt(30); k > 0; k--) {
            act(x, random, scale);
        }
        return x;
    }

    private static void act(SalaryCapLedger x, Random random, int scale) {
        int team = random.nextInt(TEAMS);
        switch (random.nextInt(8)) {
            case 0:
                x.nextYear();
                break;
            case 1:
                x.release(random.nextInt(PLAYERS), random.nextBoolean());
                break;
            case 2:
            case 3:
                x.trade(team, x.roster(team) & random.nextInt(), (team + 1) % TEAMS, x.roster((team + 1) % TEAMS) & random.nextInt());
                break;
            case 4:
            case 5:
                int length = 1 + random.nextInt(5);
                int small = random.nextInt(3);
                x.makeOffer(1 + random.nextInt(scale), small * random.nextInt(10), length, small * random.nextInt(scale), random.nextInt(length + 1));
                break;
            default:
                x.sign(team, random.nextInt(PLAYERS), random.nextInt(4));
        }
    }

    private static void compareSignings(Snapshot.Scene scene, String seed) {
        for (int player = 0; player < PLAYERS; player++) {
            SalaryCapLedger x = scene.make();
            for (int team = 0; team < TEAMS; team++) {
                int lowest = -2;
                for (int rule = 3; rule >= 0; rule--) {
                    String what = seed + "team " + team + ", player " + player + ", rule " + rule;
                    int code = signs(x, team, player, rule);
                    lowest = code == 0 ? rule : lowest;
                    CHECK.outcome("P29 " + what, String.valueOf(code), String.valueOf(x.signCode(team, player, rule)));
                    compareGreatestBase(x, what, team, player, rule);
                }
                CHECK.outcome("P30 " + seed + team + " " + player, String.valueOf(lowest), String.valueOf(x.bestRule(team, player)));
            }
        }
    }

    private static int signs(SalaryCapLedger x, int team, int player, int rule) {
        int done = x.sign(team, player, rule);
        if (done >= 0) {
            x.undo();
        }
        return Math.min(done, 0);
    }

    private static void compareGreatestBase(SalaryCapLedger x, String what, int team, int player, int rule) {
        int greatest = x.greatestBase(team, player, rule);
        CHECK.outcome("P31 " + what + ": the greatest one", greatest > 0 ? "0" : "refused", withBase(x, greatest, team, player, rule));
        CHECK.outcome("P31 " + what + ": one above", "refused", withBase(x, greatest < 0 ? 1 : greatest + 1, team, player, rule));
    }

    private static String withBase(SalaryCapLedger x, int base, int team, int player, int rule) {
        if (base < 1 || base > 99999) {
            return "refused";
        }
        x.makeOffer(base, x.offer(1), x.offer(2), x.offer(3), x.offer(4));
        int code = signs(x, team, player, rule);
        x.undo();
        return code == 0 ? "0" : "refused";
    }

    private static void compareReleases(Snapshot.Scene scene, String seed) {
        for (int k = 0; k < 2 * PLAYERS; k++) {
            int player = k / 2;
            boolean stretch = k % 2 == 1;
            SalaryCapLedger x = scene.make();
            int team = x.playerValue(player, 0);
            if (team != NONE) {
                String what = seed + "player " + player + ", " + stretch;
                int[] before = new int[12];
                int[] cost = new int[12];
                int sum = 0;
                for (int ahead = 0; ahead < 12; ahead++) {
                    before[ahead] = x.deadMoney(team, ahead);
                    cost[ahead] = x.releaseCost(player, stretch, ahead);
                    sum += cost[ahead];
                }
                int room = x.room(team);
                int gain = x.releaseGain(player, stretch);
                CHECK.outcome("P8 " + what, String.valueOf(x.release(player, stretch)), String.valueOf(sum));
                CHECK.outcome("P33 " + what, String.valueOf(x.room(team) - room), String.valueOf(gain));
                for (int ahead = 0; ahead < 12; ahead++) {
                    CHECK.outcome("P32 " + what + ", " + ahead, String.valueOf(x.deadMoney(team, ahead) - before[ahead]), String.valueOf(cost[ahead]));
                }
            }
        }
    }

    private static void compareReleaseSets(Snapshot.Scene scene, String seed) {
        for (int k = 0; k < TEAMS; k++) {
            int team = k;
            int roster = scene.make().roster(team);
            int best = -2;
            int bestCost = 0;
            for (int set = 0; set <= roster; set++) {
                boolean fewer = best == -2 || Integer.bitCount(set) < Integer.bitCount(best);
                if ((set & ~roster) == 0 && (fewer || Integer.bitCount(set) == Integer.bitCount(best))) {
                    SalaryCapLedger x = scene.make();
                    int cost = releaseAll(x, set);
                    if (x.room(team) >= 0 && (fewer || cost < bestCost)) {
                        best = set;
                        bestCost = cost;
                    }
                }
            }
            CHECK.is("P35 " + seed + "team " + team, best, () -> scene.make().releaseSet(team));
            CHECK.is("P34 " + seed + "team " + team, best == -2 ? -2 : Integer.bitCount(best), () -> scene.make().fewestReleases(team));
        }
    }

    private static int releaseAll(SalaryCapLedger x, int set) {
        int cost = 0;
        for (int player = 0; player < PLAYERS; player++) {
            cost += (set >> player & 1) == 1 ? x.release(player, false) : 0;
        }
        return cost;
    }

    private static void compareSwaps(Snapshot.Scene scene, String seed) {
        for (int k = 0; k < TEAMS * TEAMS; k++) {
            int team = k / TEAMS;
            int other = k % TEAMS;
            if (team != other) {
                SalaryCapLedger x = scene.make();
                String what = seed + "teams " + team + " and " + other;
                List<Integer> possible = new ArrayList<>();
                int best = -2;
                long least = 0;
                for (int pair = 0; pair < PLAYERS * PLAYERS; pair++) {
                    int player = pair / PLAYERS;
                    int rival = pair % PLAYERS;
                    if ((x.roster(team) >> player & 1) == 1 && (x.roster(other) >> rival & 1) == 1) {
                        int code = x.tradeCode(team, 1 << player, other, 1 << rival);
                        int done = x.trade(team, 1 << player, other, 1 << rival);
                        CHECK.outcome("P36 " + what + ", " + player + " for " + rival, String.valueOf(Math.min(0, done)), String.valueOf(code));
                        if (done >= 0) {
                            possible.add(pair);
                            long taxes = x.tax(team) + x.tax(other);
                            if (best == -2 || taxes < least) {
                                least = taxes;
                                best = 32 * player + rival;
                            }
                            x.undo();
                        }
                    }
                }
                CHECK.outcome("P37 " + what, String.valueOf(possible.size()), String.valueOf(scene.make().swapCount(team, other)));
                CHECK.outcome("P38 " + what, String.valueOf(best), String.valueOf(scene.make().bestSwap(team, other)));
            }
        }
    }

    private static void compareYears(Snapshot.Scene scene, String seed) {
        SalaryCapLedger x = scene.make();
        long[][] ahead = new long[TEAMS][8];
        long[] paid = new long[TEAMS];
        for (int team = 0; team < TEAMS; team++) {
            paid[team] = x.paid(team);
            for (int years = 1; years <= 8; years++) {
                ahead[team][years - 1] = x.taxAhead(team, years);
            }
        }
        for (int years = 1; years <= 8 && x.nextYear() != -2; years++) {
            for (int team = 0; team < TEAMS; team++) {
                CHECK.outcome("P39 " + seed + "team " + team + ", " + years + " years",
                        String.valueOf(x.paid(team) - paid[team]), String.valueOf(ahead[team][years - 1]));
            }
        }
    }
}
