/**
 * "7 THE END OF A YEAR" and promises 10, 18, 19, 20 and 39: each sentence that names a boundary case. A check's name
 * begins with the section or promise that it is for. Each due number was reckoned by hand.
 */
public final class YearEdgesTest {
    private static final Check CHECK = new Check();
    /** Years in which a team pays 30 for 20 above the line, or 50 if 20 are added. */
    private static final String TWENTY_ABOVE = "league 1 100 0 0 99999;bracket 10 100;bracket 10 200;teams 2;players 3;";

    public static void main(String[] args) {
        excessAroundZero();
        endsOfBrackets();
        lastBracket();
        fewerBrackets();
        taxedButNoTax();
        taxedThreeOfFour();
        taxedFirstYears();
        excessIsAddedWhole();
        eachTeamPays();
        contractsEnd();
        tenureGrows();
        midLevelIsWholeAgain();
        linesOfTheYearThatEnds();
        lastYear();
        paidAndTaxedYears();
        taxAheadOfAllYears();
        taxAheadCountsTaxedYears();
        taxAheadIfNothingElseHappened();
        taxAheadBeyondTheLastYear();
        CHECK.finish("YearEdgesTest");
    }

    private static SalaryCapLedger charged(String brackets, int charge) {
        return Check.league("league 1 1000 0 0 1;" + brackets + "teams 1;players 1;contract 0 0 " + charge + " 0 5 0 0;");
    }

    private static void excessAroundZero() {
        for (int excess = -1; excess <= 2; excess++) {
            int above = Math.max(0, excess);
            SalaryCapLedger x = charged("bracket 9 100;", 1000 + excess);
            CHECK.is("7 'If E is 0 or less, the tax is 0': " + excess, above, () -> x.tax(0));
            CHECK.is("7, P10: paid for " + excess, above, () -> x.nextYear());
            CHECK.is("7 'taxed (with E above 0)': " + excess, above > 0 ? 1 : 0, () -> x.taxedYears(0));
            CHECK.is("P19: paid for " + excess, above, () -> x.paid(0));
        }
    }

    private static void endsOfBrackets() {
        String four = "bracket 10 100;bracket 5 200;bracket 3 300;bracket 2 400;";
        taxed("7: within the first bracket", four, 9, 9);
        taxed("7 'the first S units fall into the first bracket': all of it", four, 10, 10);
        taxed("7 'the next ones into the second one'", four, 11, 12);
        taxed("7: the second bracket's end", four, 15, 20);
        taxed("7: the first unit of the third", four, 16, 23);
        taxed("7: the third bracket's end", four, 18, 29);
        taxed("7: the first unit of the last", four, 19, 33);
        taxed("7: the last bracket's size", four, 20, 37);
        taxed("7 'all that is left falls into the last bracket': one above its size", four, 21, 41);
        taxed("7 'all that is left falls into the last bracket': far above its size", four, 1018, 29 + 4000);
    }

    private static void lastBracket() {
        taxed("7: brackets of one unit", "bracket 1 100;bracket 1 200;bracket 1 300;bracket 1 400;", 1, 1);
        taxed("7: brackets of one unit", "bracket 1 100;bracket 1 200;bracket 1 300;bracket 1 400;", 2, 3);
        taxed("7: brackets of one unit", "bracket 1 100;bracket 1 200;bracket 1 300;bracket 1 400;", 5, 14);
        taxed("7: a lower rate behind a higher one", "bracket 10 900;bracket 10 0;bracket 10 100;", 21, 91);
        taxed("7: the greatest bracket is not filled", "bracket 99999 100;bracket 1 900;", 90000, 90000);
    }

    private static void fewerBrackets() {
        taxed("7: one bracket takes all", "bracket 1 150;", 1000, 1500);
        taxed("7: two brackets", "bracket 10 100;bracket 1 300;", 12, 16);
        taxed("7: three brackets", "bracket 10 100;bracket 1 300;bracket 1 500;", 13, 23);
        taxed("7: rate 0", "bracket 10 0;bracket 1 0;", 500, 0);
        taxed("7: rate 900", "bracket 10 900;", 10, 90);
    }

    private static void taxed(String what, String brackets, int excess, int due) {
        CHECK.is(what + ", E " + excess, due, () -> charged(brackets, 1000 + excess).tax(0));
    }

    private static void taxedButNoTax() {
        SalaryCapLedger x = charged("bracket 9 99;", 1001);
        for (int year = 0; year < 3; year++) {
            CHECK.is("7: E 1 and the tax 0.99, truncated", 0, () -> x.nextYear());
        }
        CHECK.is("7, P20 '(with its charge above the tax line)': taxed without a tax", 7, () -> x.taxedYears(0));
        CHECK.is("7: such years count, E is added", 1, () -> x.tax(0));
        CHECK.is("7: such years count at the end of the year", 1, () -> x.nextYear());
    }

    /** Year 0 is taxed in every case: it is no year of the 4 before year 5. */
    private static void taxedThreeOfFour() {
        for (int pattern = 0; pattern < 16; pattern++) {
            SalaryCapLedger x = Check.league(TWENTY_ABOVE);
            int set = 1 | pattern << 1;
            for (int year = 0; year < 5; year++) {
                chargeThisYear(x, (set >> year & 1) == 1 ? 120 : 100);
                x.nextYear();
            }
            chargeThisYear(x, 120);
            int taxedSet = set;
            int due = Integer.bitCount(pattern) >= 3 ? 50 : 30;
            CHECK.is("P20: the set of taxed years", taxedSet, () -> x.taxedYears(0));
            CHECK.is("7 'in at least 3 of the 4 years before': tax, years " + set, due, () -> x.tax(0));
            CHECK.is("7 'in at least 3 of the 4 years before': ahead, years " + set, due, () -> x.taxAhead(0, 1));
            CHECK.is("7 'in at least 3 of the 4 years before': paid, years " + set, due, () -> x.nextYear());
            CHECK.is("P20: and this year", taxedSet | 32, () -> x.taxedYears(0));
        }
    }

    private static void chargeThisYear(SalaryCapLedger x, int charge) {
        x.makeOffer(charge, 0, 1, 0, 0);
        x.sign(0, 0, 2);
    }

    private static void taxedFirstYears() {
        int[] due = {30, 30, 30, 50, 50};
        SalaryCapLedger x = Check.league(TWENTY_ABOVE + "contract 0 0 120 0 5 0 0;");
        for (int year = 0; year < 5; year++) {
            CHECK.is("7: taxed in all years, year " + year, due[year], () -> x.tax(0));
            CHECK.is("P39: taxed in all years, ahead of year " + year, due[year], () -> x.taxAhead(0, 1));
            int paid = due[year];
            CHECK.is("7: taxed in all years, the end of year " + year, paid, () -> x.nextYear());
        }
        int[] later = {0, 0, 30, 30};
        for (int year = 5; year < 9; year++) {
            int paid = later[year - 5];
            chargeThisYear(x, paid > 0 ? 120 : 100);
            CHECK.is("7: after years without a tax, year " + year, paid, () -> x.nextYear());
        }
        CHECK.is("P20: the years 5 and 6 are not in the set", 31 + 128 + 256, () -> x.taxedYears(0));
    }

    private static void excessIsAddedWhole() {
        SalaryCapLedger x = charged("bracket 10 50;bracket 10 33;", 1000 + 17);
        for (int year = 0; year < 3; year++) {
            CHECK.is("7: 5 and 2.31", 7, () -> x.nextYear());
        }
        CHECK.is("7 'E is added'", 7 + 17, () -> x.nextYear());
    }

    private static void eachTeamPays() {
        SalaryCapLedger x = Check.league("league 1 100 0 0 1;bracket 10 100;bracket 10 200;teams 4;players 4;"
                + "contract 0 0 100 0 1 0 0;contract 1 1 101 0 1 0 0;contract 2 2 110 0 2 0 0;contract 3 3 115 0 2 7 0;");
        CHECK.is("7 'each team pays its tax', P10 'the sum of the taxes of all teams'", 1 + 10 + 28, () -> x.nextYear());
        int[] paid = {0, 1, 10, 28};
        int[] again = {0, 0, 10, 26};
        for (int k = 0; k < 4; k++) {
            int team = k;
            CHECK.is("7, P19: team " + k, paid[k], () -> x.paid(team));
        }
        CHECK.is("P10: of the next year", 36, () -> x.nextYear());
        for (int k = 0; k < 4; k++) {
            int team = k;
            CHECK.is("P19 'the sum of the taxes', two years, team " + k, paid[k] + again[k], () -> x.paid(team));
        }
    }

    private static void contractsEnd() {
        StringBuilder text = new StringBuilder("league 999999 999999 0 0 1;bracket 1 1;teams 1;players 5;");
        for (int k = 0; k < 5; k++) {
            text.append("contract ").append(k).append(" 0 10 0 ").append(k + 1).append(" 0 0;");
        }
        SalaryCapLedger x = Check.league(text.toString());
        for (int year = 1; year <= 5; year++) {
            x.nextYear();
            int set = 31 & ~((1 << year) - 1);
            CHECK.is("7 'contracts whose years are over end', year " + year, set, () -> x.roster(0));
        }
        SalaryCapLedger later = Check.league("league 999999 999999 0 0 1;bracket 1 1;teams 1;players 2;");
        for (int k = 0; k < 7; k++) {
            later.nextYear();
        }
        later.makeOffer(5, 0, 2, 0, 0);
        later.sign(0, 1, 0);
        later.nextYear();
        CHECK.is("7: signed in year 7 for two years, year 8", 2, () -> later.roster(0));
        later.nextYear();
        CHECK.is("7: signed in year 7 for two years, year 9", 0, () -> later.roster(0));
    }

    private static void tenureGrows() {
        SalaryCapLedger x = Check.league("league 9 9 0 0 1;bracket 1 1;teams 1;players 3;contract 0 0 1 0 1 0 0;contract 1 0 1 0 2 0 0;");
        x.nextYear();
        CHECK.is("7: the tenure increases before the contract ends", 1, () -> x.playerValue(0, 2));
        CHECK.is("7 'of each player with a contract'", 1, () -> x.playerValue(1, 2));
        CHECK.is("7: none without a contract", 0, () -> x.playerValue(2, 2));
        x.nextYear();
        CHECK.is("7: none after the contract", 1, () -> x.playerValue(0, 2));
        CHECK.is("7: 'increases by 1'", 2, () -> x.playerValue(1, 2));
    }

    private static void midLevelIsWholeAgain() {
        SalaryCapLedger x = Check.league("league 1 9 0 100 1;bracket 1 1;teams 3;players 3;");
        x.makeOffer(100, 0, 1, 0, 0);
        x.sign(0, 0, 1);
        x.makeOffer(99, 0, 1, 0, 0);
        x.sign(1, 1, 1);
        x.nextYear();
        for (int k = 0; k < 3; k++) {
            int team = k;
            CHECK.is("7 'the whole mid-level amount is left for each team again'", 100, () -> x.midLevel(team));
        }
        x.undo();
        CHECK.is("P40: what was left before", 0, () -> x.midLevel(0));
        CHECK.is("P40: what was left before, team 1", 1, () -> x.midLevel(1));
    }

    private static void linesOfTheYearThatEnds() {
        SalaryCapLedger x = Check.league("league 1 100 100 0 1;bracket 1 100;teams 1;players 1;contract 0 0 100 20 5 10 0;");
        CHECK.is("7 'of the present year': 102 of 100", 2, () -> x.nextYear());
        CHECK.is("7 'of the present year': 122 of 110", 12, () -> x.nextYear());
        CHECK.is("7 'of the present year': 142 of 121", 21, () -> x.nextYear());
        CHECK.is("7 'of the present year': 162 of 133, and E", 58, () -> x.nextYear());
        CHECK.is("7 'of the present year': 182 of 146, and E", 72, () -> x.nextYear());
        CHECK.is("7 'of the present year': nobody", 0, () -> x.nextYear());
        SalaryCapLedger dead = Check.league("league 1 100 0 0 1;bracket 1 100;teams 1;players 1;contract 0 0 110 0 3 0 3;");
        dead.release(0, false);
        CHECK.is("7: dead money is taxed", 10, () -> dead.nextYear());
        CHECK.is("7: dead money of the next year is taxed", 10, () -> dead.nextYear());
    }

    private static void lastYear() {
        SalaryCapLedger x = Check.league("league 1 100 0 50 1;bracket 1 100;teams 1;players 1;contract 0 0 120 0 5 0 0;");
        for (int year = 0; year < 14; year++) {
            x.nextYear();
        }
        x.makeOffer(40, 0, 3, 0, 0);
        x.sign(0, 0, 1);
        CHECK.is("P10: the end of year 14", 0, () -> x.nextYear());
        String before = Snapshot.whole(() -> inYearFifteen());
        CHECK.is("P10 '-2 if the present year is 15'", -2, () -> x.nextYear());
        CHECK.is("P10 '-2 if the present year is 15', again", -2, () -> x.nextYear());
        CHECK.same("P10: it changes nothing", before, Snapshot.whole(() -> {
            SalaryCapLedger y = inYearFifteen();
            y.nextYear();
            return y;
        }));
        x.undo();
        CHECK.is("P10: -2 is no action, the end of year 14 was undone", 14, () -> x.year());
    }

    private static SalaryCapLedger inYearFifteen() {
        SalaryCapLedger x = Check.league("league 1 100 0 50 1;bracket 1 100;teams 1;players 2;");
        for (int year = 0; year < 15; year++) {
            x.nextYear();
        }
        x.makeOffer(110, 10, 3, 0, 2);
        x.sign(0, 0, 0);
        x.makeOffer(40, 10, 3, 0, 2);
        x.sign(0, 1, 1);
        return x;
    }

    private static void paidAndTaxedYears() {
        SalaryCapLedger x = Check.league(TWENTY_ABOVE);
        for (int year = 0; year < 15; year++) {
            chargeThisYear(x, 120);
            x.nextYear();
        }
        CHECK.is("P20 'bit k stands for year k': years 0 to 14", 0x7fff, () -> x.taxedYears(0));
        CHECK.is("P20: the other team", 0, () -> x.taxedYears(1));
        CHECK.is("P19: 3 * 30 and 12 * 50", 690, () -> x.paid(0));
        chargeThisYear(x, 120);
        CHECK.is("P18 'that a team would pay if the year ended now': year 15", 50, () -> x.tax(0));
        CHECK.is("P20: year 15 does not end", 0x7fff, () -> x.taxedYears(0));
        CHECK.is("P19: nothing more", 690, () -> x.paid(0));
        x.undo();
        x.undo();
        x.undo();
        CHECK.is("P40: year 14 is not taxed yet", 0x3fff, () -> x.taxedYears(0));
        CHECK.is("P40: nor paid for", 640, () -> x.paid(0));
    }

    private static void taxAheadOfAllYears() {
        SalaryCapLedger x = Check.league(TWENTY_ABOVE + "contract 0 0 120 0 5 0 0;");
        long[] due = {30, 60, 90, 140, 190, 190, 190, 190};
        for (int k = 1; k <= 8; k++) {
            int years = k;
            CHECK.is("P39 'at the ends of the next years, the present one included': " + k, due[k - 1], () -> x.taxAhead(0, years));
        }
        CHECK.is("P39: one year is tax()", 30, () -> x.tax(0));
        CHECK.illegal("P39 'years: 1 to 8': 0", () -> x.taxAhead(0, 0));
        CHECK.illegal("P39 'years: 1 to 8': 9", () -> x.taxAhead(0, 9));
        CHECK.is("P39: it changes nothing", 0, () -> x.paid(0) + x.taxedYears(0) + x.year());
        CHECK.is("P39: the other team", 0, () -> x.taxAhead(1, 8));
    }

    /** Years that are taxed ahead count for those behind them. */
    private static void taxAheadCountsTaxedYears() {
        SalaryCapLedger x = Check.league(TWENTY_ABOVE);
        chargeThisYear(x, 120);
        x.nextYear();
        x.nextYear();
        x.makeOffer(120, 0, 2, 0, 2);
        x.sign(0, 0, 2);
        CHECK.is("P39: year 2, one of the 2 years before is taxed", 30, () -> x.taxAhead(0, 1));
        CHECK.is("P39: year 3, two of the 3 years before are taxed", 60, () -> x.taxAhead(0, 2));
        x.nextYear();
        x.nextYear();
        x.makeOffer(120, 0, 2, 0, 2);
        x.sign(0, 0, 2);
        CHECK.is("P39: year 4, three of the 4 years before are taxed", 50, () -> x.taxAhead(0, 1));
        CHECK.is("P39: year 5, years 2 to 4 were taxed", 100, () -> x.taxAhead(0, 2));
        CHECK.is("P39: year 6, not taxed", 100, () -> x.taxAhead(0, 3));
        SalaryCapLedger y = Check.league(TWENTY_ABOVE + "contract 0 0 120 0 1 0 0;");
        y.nextYear();
        y.makeOffer(60, 0, 2, 0, 0);
        y.sign(0, 0, 2);
        y.nextYear();
        y.makeOffer(60, 0, 2, 0, 0);
        y.sign(0, 1, 2);
        CHECK.is("P39: year 2, 120 of two", 30, () -> y.taxAhead(0, 1));
        CHECK.is("P39: year 3, 60 alone", 30, () -> y.taxAhead(0, 8));
    }

    private static void taxAheadIfNothingElseHappened() {
        SalaryCapLedger x = Check.league("league 1 100 100 0 1;bracket 1 100;teams 1;players 2;contract 0 0 100 20 5 10 5;contract 1 0 1 0 2 0 0;");
        long[] due = {3, 3 + 13, 3 + 13 + 21, 3 + 13 + 21 + 58, 3 + 13 + 21 + 58 + 72};
        for (int k = 1; k <= 8; k++) {
            int years = k;
            CHECK.is("P39: the lines grow, contracts end: " + k, due[Math.min(k, 5) - 1], () -> x.taxAhead(0, years));
        }
        x.release(0, true);
        CHECK.is("P39: 700 stretched over 11 years, 64 + 10 and 1 of 100", 0, () -> x.taxAhead(0, 8));
        x.undo();
        x.release(0, false);
        CHECK.is("P39: dead money of 110, 120, 140, 160 and 180", 11 + 11 + 19 + 27 * 2 + 34 * 2, () -> x.taxAhead(0, 8));
        CHECK.is("P39: as it comes when the years end", x.taxAhead(0, 8), () -> sumOfYears(x, 8));
    }

    private static double sumOfYears(SalaryCapLedger x, int years) {
        double sum = 0;
        for (int k = 0; k < years; k++) {
            sum += x.nextYear();
        }
        return sum;
    }

    private static void taxAheadBeyondTheLastYear() {
        SalaryCapLedger x = Check.league(TWENTY_ABOVE);
        for (int year = 0; year < 15; year++) {
            x.nextYear();
        }
        x.makeOffer(65, 0, 2, 0, 2);
        x.sign(0, 0, 2);
        x.makeOffer(60, 0, 2, 0, 2);
        x.sign(0, 1, 2);
        long[] due = {40, 80, 80, 80, 80, 80, 80, 80};
        for (int k = 1; k <= 8; k++) {
            int years = k;
            CHECK.is("P39 'even if the present year would be above 15': " + k, due[k - 1], () -> x.taxAhead(0, years));
        }
        SalaryCapLedger rich = Check.league("league 999 100 0 0 1;bracket 10 100;bracket 10 200;teams 1;players 1;");
        for (int year = 0; year < 15; year++) {
            rich.nextYear();
        }
        rich.makeOffer(120, 0, 5, 0, 5);
        rich.sign(0, 0, 0);
        long[] five = {30, 60, 90, 140, 190, 190, 190, 190};
        for (int k = 1; k <= 8; k++) {
            int years = k;
            CHECK.is("P39: years 15 to 22, taxed in five: " + k, five[k - 1], () -> rich.taxAhead(0, years));
        }
        CHECK.is("P39: year 15 still", 15, () -> rich.year());
    }
}
