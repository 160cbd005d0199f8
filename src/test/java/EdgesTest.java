import java.math.BigInteger;
import java.util.ArrayList;
import java.util.List;

/**
 * The document's sentences that name a boundary, one test for each, in their order. What is refused at a boundary, and
 * that it changes nothing, is in RefusalsTest.
 */
public final class EdgesTest {
    /** Eight rules, the third one moves none; the last one but one is the row turned round. */
    private static final String[] EIGHT_RULES =
        {"123450", "102345", "012345", "103254", "021435", "201354", "543210", "312405"};
    /** A peal of thirty of these rules that rings 31 different rows, and 180 till it is at rounds again. */
    private static final String LONG_PEAL = "041464370713635176150713406134";
    /** A peal of thirty of these rules of which only the last one brings the row back to the first row. */
    private static final String ROUND_PEAL = "000010000100001000010000100001";

    public static void main(String[] args) {
        terms();
        rulesAndTheirFacts();
        theRow();
        peals();
        truth();
        timesAndRows();
        counts();
        ways();
        checksum();
        Check.end();
    }

    private static void terms() {
        sixPlacesAndShutters();
        roundsAtFirst();
        theFirstDigitIsTheHighest();
        theFirstAndTheLastRow();
        eightRulesInTheirOrder();
        sixPealsInTheirOrder();
        thirtyRulesInEachPeal();
        allShuttersAtOnce();
        theLastCall();
    }

    private static void rulesAndTheirFacts() {
        everyPlaceFromEachPlace();
        theSameRuleAgain();
        oneTimeOrMore();
        placesLeft();
        pairsOfPlaces();
        groupsOfOneAndOfSix();
        theUndoerAlsoItself();
        theUndoerWithTheSmallestNumber();
        noUndoer();
        swapsWithItself();
    }

    private static void theRow() {
        undoFromRounds();
        theRuleThatMovesNone();
        theRowBefore();
    }

    private static void peals() {
        theRuleBehindAllOthers();
        playWithoutRules();
        playThirtyRules();
        toldFromRounds();
    }

    private static void truth() {
        trueWithoutRules();
        trueWithOneRule();
        trueWithTwoRules();
        trueWithThirtyRules();
        trueFromEachRow();
    }

    private static void timesAndRows() {
        rungOnceWithoutRules();
        rungOneToSixTimes();
        rowsWithRounds();
        mostRows();
    }

    private static void counts() {
        changesOfPealsToo();
        setIsNoChange();
        pairsOfShutters();
    }

    private static void ways() {
        theRowItself();
        byNone();
        noneUndone();
        theSmallestFirstRule();
        reachWithoutRules();
        reachAll();
        theMeanWithTheRowItself();
        waysAfterEachRule();
        theFirstWayAsked();
    }

    private static void checksum() {
        theChecksumOfANewObject();
        theChecksumInItsOrder();
        theChecksumWrapsAround();
    }

    private static int code(String shutters) {
        return Integer.parseInt(shutters, 6);
    }

    private static int tell(ShutterRinging x, String places) {
        return x.rule(places.charAt(0) - '0', places.charAt(1) - '0', places.charAt(2) - '0',
                places.charAt(3) - '0', places.charAt(4) - '0', places.charAt(5) - '0');
    }

    private static ShutterRinging with(String... rules) {
        ShutterRinging x = new ShutterRinging();
        for (String rule : rules) {
            tell(x, rule);
        }
        return x;
    }

    private static int pealOf(ShutterRinging x, String rules) {
        int peal = x.peal();
        for (char rule : rules.toCharArray()) {
            x.add(peal, rule - '0');
        }
        return peal;
    }

    private static void dueTold(ShutterRinging x, int peal, int... due) {
        for (int what = 0; what < due.length; what++) {
            Check.due("told(" + peal + ", " + what + ")", due[what], x.told(peal, what));
        }
    }

    // ---- the terms

    /** "It has 6 places, 0 to 5, with the shutters 0 to 5, each once" */
    private static void sixPlacesAndShutters() {
        ShutterRinging x = with(EIGHT_RULES);
        for (int rule = 0; rule < 8; rule++) {
            x.ring(rule);
            int met = 0;
            for (int place = 0; place < 6; place++) {
                met |= 1 << x.at(place);
                Check.due("the place of the shutter at " + place, place, x.find(x.at(place)));
            }
            Check.due("the shutters met", 63, met);
        }
        Check.due("no place before 0", "throws " + Check.INDEX, () -> x.at(-1));
        Check.due("no place 6", "throws " + Check.INDEX, () -> x.at(6));
        Check.due("no shutter before 0", "throws " + Check.INDEX, () -> x.find(-1));
        Check.due("no shutter 6", "throws " + Check.INDEX, () -> x.find(6));
    }

    /** "at first the shutter k is at the place k (rounds)" */
    private static void roundsAtFirst() {
        ShutterRinging x = new ShutterRinging();
        for (int k = 0; k < 6; k++) {
            Check.due("at first at(" + k + ")", k, x.at(k));
            Check.due("at first find(" + k + ")", k, x.find(k));
        }
        with("123450").ring(0);
        Check.due("another new object", 1865, new ShutterRinging().count(3));
    }

    /** "as the digits of a number of the base 6, the first one as the highest digit (rounds: 1865)" */
    private static void theFirstDigitIsTheHighest() {
        ShutterRinging x = with("102345", "012354");
        Check.due("rounds", 1865, x.count(3));
        Check.due("1 first", 7776 + 2 * 216 + 3 * 36 + 4 * 6 + 5, x.ring(0));
        Check.due("4 last", 7776 + 2 * 216 + 3 * 36 + 5 * 6 + 4, x.ring(1));
    }

    private static void theFirstAndTheLastRow() {
        ShutterRinging x = new ShutterRinging();
        Check.due("the last row", 1865, x.set(44790));
        Check.due("its first shutter", 5, x.at(0));
        Check.due("its last shutter", 0, x.at(5));
        Check.due("the first row", 44790, x.set(1865));
        Check.due("one before the first row", "throws " + Check.ARGUMENT, () -> x.set(1864));
        Check.due("one behind the last row", "throws " + Check.ARGUMENT, () -> x.set(44791));
        Check.due("the row is", 1865, x.count(3));
    }

    /** "There are at most 8, numbered from 0 in the order of their telling" */
    private static void eightRulesInTheirOrder() {
        ShutterRinging x = new ShutterRinging();
        for (int k = 0; k < 8; k++) {
            int none = k;
            Check.due("no rule yet", "throws " + Check.INDEX, () -> x.goes(none, 0));
            Check.due("the number of the rule", k, tell(x, EIGHT_RULES[k]));
        }
        Check.due("a ninth", "throws " + Check.STATE, () -> tell(x, "123450"));
        Check.due("no rule 8", "throws " + Check.INDEX, () -> x.goes(8, 0));
        for (int k = 0; k < 8; k++) {
            for (int place = 0; place < 6; place++) {
                Check.due("goes(" + k + ", " + place + ")", EIGHT_RULES[k].charAt(place) - '0', x.goes(k, place));
            }
        }
    }

    /** "There are at most 6, numbered likewise" */
    private static void sixPealsInTheirOrder() {
        ShutterRinging x = with("123450");
        for (int k = 0; k < 6; k++) {
            int none = k;
            Check.due("no peal yet", "throws " + Check.INDEX, () -> x.told(none, 0));
            Check.due("the number of the peal", k, x.peal());
            Check.due("a new peal has no rule", 0, x.told(k, 0));
        }
        Check.due("a seventh", "throws " + Check.STATE, x::peal);
        Check.due("no peal 6", "throws " + Check.INDEX, () -> x.told(6, 0));
    }

    /** "each is a list of at most 30 rules, rung one behind the other" */
    private static void thirtyRulesInEachPeal() {
        ShutterRinging x = with("123450", "102345");
        for (int peal = 0; peal < 6; peal++) {
            x.peal();
            int full = peal;
            for (int k = 1; k <= 30; k++) {
                Check.due("the rules of the peal then", k, x.add(peal, k > peal ? 0 : 1));
            }
            Check.due("a thirty-first", "throws " + Check.STATE, () -> x.add(full, 0));
        }
        for (int peal = 0; peal < 6; peal++) {
            String now = "012345";
            for (int k = 1; k <= 30; k++) {
                now = k > peal ? now.charAt(5) + now.substring(0, 5)
                        : "" + now.charAt(1) + now.charAt(0) + now.substring(2);
            }
            Check.due("the peal " + peal + " has thirty", 30, x.told(peal, 0));
            Check.due("the peal " + peal + " leads to", code(now), x.told(peal, 1));
        }
        Check.due("thirty turns lead to", 1865, x.told(0, 1));
    }

    /** "Ringing a rule has all shutters go so at once; undoing it has them go back" */
    private static void allShuttersAtOnce() {
        ShutterRinging x = with("123450", "201354");
        x.set(code("524103"));
        Check.due("all one place on", code("352410"), x.ring(0));
        Check.due("all one place back", code("524103"), x.undo(0));
        Check.due("all one place further back", code("241035"), x.undo(0));
        Check.due("three turn, two change", code("412053"), x.ring(1));
        Check.due("and back", code("241035"), x.undo(1));
    }

    /** "An object is used for at most 512 calls": the 512th answers as the first one. */
    private static void theLastCall() {
        ShutterRinging rung = with("123450");
        String row = "012345";
        for (int call = 2; call <= 511; call++) {
            row = row.charAt(5) + row.substring(0, 5);
            Check.due("ring at call " + call, code(row), rung.ring(0));
        }
        Check.due("the changes at the 512th call", 510, rung.count(2));

        ShutterRinging fourTimes = with(EIGHT_RULES);
        pealOf(fourTimes, LONG_PEAL);
        ShutterRinging played = with(EIGHT_RULES);
        pealOf(played, LONG_PEAL);
        for (int time = 0; time < 4; time++) {
            fourTimes.play(0);
        }
        // 472 times are 78 times six, and four.
        for (int call = 40; call <= 510; call++) {
            played.play(0);
        }
        Check.due("play at call 511", fourTimes.count(3), played.play(0));
        Check.due("the changes of peals at the 512th call", 30 * 472, played.count(2));
    }

    // ---- rules

    /** "if one of them is not 0 to 5, or two are the same": each place from each place is good. */
    private static void everyPlaceFromEachPlace() {
        for (int turn = 0; turn < 6; turn++) {
            ShutterRinging x = new ShutterRinging();
            int t = turn;
            Check.due("turn by " + t, 0, x.rule(t, (t + 1) % 6, (t + 2) % 6, (t + 3) % 6, (t + 4) % 6, (t + 5) % 6));
            for (int place = 0; place < 6; place++) {
                Check.due("from " + place, (place + t) % 6, x.goes(0, place));
            }
        }
    }

    /** Only two places of one rule may not be the same; two rules may. */
    private static void theSameRuleAgain() {
        ShutterRinging x = new ShutterRinging();
        for (int k = 0; k < 8; k++) {
            Check.due("the rule that moves none", k, tell(x, "012345"));
        }
    }

    /** "how often it has to be rung, 1 or more, till each row is as before" */
    private static void oneTimeOrMore() {
        Check.due("moves none", 1, with("012345").about(0, 0));
        Check.due("moves two", 2, with("543210").about(0, 0));
        Check.due("a turn of six", 6, with("123450").about(0, 0));
        Check.due("a turn of three and one of two", 6, with("201354").about(0, 0));
        ShutterRinging x = with("123405");
        x.ring(0);
        Check.due("from any row", 5, x.about(0, 0));
        Check.due("nothing is rung for it", code("401235"), x.count(3));
    }

    /** "places whose shutter it leaves there" */
    private static void placesLeft() {
        Check.due("all", 6, with("012345").about(0, 1));
        Check.due("none", 0, with("103254").about(0, 1));
        Check.due("the first one", 1, with("023451").about(0, 1));
        Check.due("the last one", 1, with("123405").about(0, 1));
        ShutterRinging x = with("102345");
        x.ring(0);
        Check.due("not the shutters of the row", 4, x.about(0, 1));
    }

    /** "0 if it is even, 1 if it is odd: by the number of pairs of places of which it changes the order" */
    private static void pairsOfPlaces() {
        Check.due("no pair", 0, with("012345").about(0, 2));
        Check.due("one pair", 1, with("012354").about(0, 2));
        Check.due("all fifteen", 1, with("543210").about(0, 2));
        Check.due("fourteen", 0, with("543201").about(0, 2));
        Check.due("the first and the last", 1, with("512340").about(0, 2));
    }

    /** "how many groups of places it has: .. the shutter of one comes to the other one by the rule, again and again" */
    private static void groupsOfOneAndOfSix() {
        Check.due("each of its own", 6, with("012345").about(0, 3));
        Check.due("all together", 1, with("123450").about(0, 3));
        Check.due("all together, the other way", 1, with("501234").about(0, 3));
        Check.due("all together, crosswise", 1, with("453012").about(0, 3));
        Check.due("two of three", 2, with("234501").about(0, 3));
        Check.due("three of two", 3, with("345012").about(0, 3));
    }

    /** "the rule that undoes it (also itself)" */
    private static void theUndoerAlsoItself() {
        Check.due("moves none", 0, with("012345").about(0, 4));
        Check.due("moves two", 0, with("102345").about(0, 4));
        ShutterRinging x = with("123450", "123450", "123450", "123450", "123450", "123450", "123450", "543210");
        Check.due("the last of eight", 7, x.about(7, 4));
        Check.due("the first of eight", -1, x.about(0, 4));
    }

    /** "of several the one with the smallest number" */
    private static void theUndoerWithTheSmallestNumber() {
        ShutterRinging x = with("123450", "123450", "501234", "501234", "102345", "102345", "012345", "012345");
        int[] due = {2, 2, 0, 0, 4, 4, 6, 6};
        for (int rule = 0; rule < 8; rule++) {
            Check.due("about(" + rule + ", 4)", due[rule], x.about(rule, 4));
        }
    }

    /** "-1 without one", till one is told */
    private static void noUndoer() {
        ShutterRinging x = with("120345", "123450");
        Check.due("before", -1, x.about(0, 4));
        Check.due("the other one", -1, x.about(1, 4));
        tell(x, "201345");
        Check.due("after", 2, x.about(0, 4));
        Check.due("and the other way", 0, x.about(2, 4));
        Check.due("the other one still", -1, x.about(1, 4));
    }

    /** "whether it is the same to ring the first one, then the other one, or the other way round" */
    private static void swapsWithItself() {
        ShutterRinging x = with(EIGHT_RULES);
        for (int rule = 0; rule < 8; rule++) {
            Check.due("with itself", true, x.swaps(rule, rule));
            Check.due("with the one that moves none", true, x.swaps(rule, 2));
            Check.due("the one that moves none with it", true, x.swaps(2, rule));
        }
        Check.due("the first and the last", false, x.swaps(0, 7));
        Check.due("the last and the first", false, x.swaps(7, 0));
        Check.due("alike but at the last places", false, with("102345", "102354", "012453").swaps(1, 2));
        Check.due("nothing is rung for it", 0, x.count(2));
    }

    // ---- the row

    private static void undoFromRounds() {
        ShutterRinging x = with(EIGHT_RULES);
        Check.due("undo(0)", code("123450"), x.undo(0));
        Check.due("count(2)", 1, x.count(2));
        Check.due("ring(0)", 1865, x.ring(0));
        Check.due("count(2) then", 2, x.count(2));
        Check.due("undo(7), the last one", code("312405"), x.undo(7));
        Check.due("ring(7), the last one", 1865, x.ring(7));
    }

    /** A change is one also if it moves none. */
    private static void theRuleThatMovesNone() {
        ShutterRinging x = with("012345");
        x.set(code("205134"));
        Check.due("ring", code("205134"), x.ring(0));
        Check.due("undo", code("205134"), x.undo(0));
        Check.due("count(2)", 2, x.count(2));
    }

    /** "Returns the code of the row before." */
    private static void theRowBefore() {
        ShutterRinging x = with("123450");
        Check.due("to the same row", 1865, x.set(1865));
        Check.due("to another one", 1865, x.set(code("205134")));
        Check.due("to the same row again", code("205134"), x.set(code("205134")));
        x.ring(0);
        Check.due("behind a change", code("420513"), x.set(1865));
    }

    // ---- peals

    /** "Adds a rule to a peal, behind all others": also between the ringing of the peal. */
    private static void theRuleBehindAllOthers() {
        ShutterRinging x = with("123450", "102345");
        x.peal();
        Check.due("the first one", 1, x.add(0, 0));
        Check.due("rung", code("501234"), x.play(0));
        Check.due("the second one", 2, x.add(0, 1));
        x.set(1865);
        Check.due("rung with it", code("051234"), x.play(0));
        Check.due("changes", 3, x.count(2));
    }

    /** A peal has at first no rule: it leads from each row to itself. */
    private static void playWithoutRules() {
        ShutterRinging x = new ShutterRinging();
        x.peal();
        Check.due("at rounds", 1865, x.play(0));
        x.set(44790);
        Check.due("at another row", 44790, x.play(0));
        Check.due("no change", 0, x.count(2));
    }

    private static void playThirtyRules() {
        ShutterRinging x = with(EIGHT_RULES);
        for (int peal = 0; peal < 5; peal++) {
            pealOf(x, ROUND_PEAL.substring(0, peal));
        }
        Check.due("the last peal", 5, pealOf(x, LONG_PEAL));
        int leads = x.told(5, 1);
        Check.due("play(5)", leads, x.play(5));
        Check.due("thirty changes", 30, x.count(2));
        for (int time = 2; time <= 6; time++) {
            x.play(5);
        }
        Check.due("rung six times", 1865, x.count(3));
        Check.due("a hundred and eighty changes", 180, x.count(2));
    }

    /** "the code of the row to which it leads from rounds", wherever the row is */
    private static void toldFromRounds() {
        ShutterRinging x = with("123450");
        pealOf(x, "00");
        for (int time = 0; time < 6; time++) {
            Check.due("told(0, 1)", code("450123"), x.told(0, 1));
            x.ring(0);
        }
        Check.due("telling rings nothing", 6, x.count(2));
    }

    /** "of the row from which it begins and those behind each of its rules no two are the same" */
    private static void trueWithoutRules() {
        ShutterRinging x = new ShutterRinging();
        x.peal();
        Check.due("one row alone", 1, x.told(0, 2));
    }

    /** "but the last one may be the one from which it begins" */
    private static void trueWithOneRule() {
        ShutterRinging x = with(EIGHT_RULES);
        Check.due("another row", 1, x.told(pealOf(x, "0"), 2));
        Check.due("the row from which it begins", 1, x.told(pealOf(x, "2"), 2));
    }

    private static void trueWithTwoRules() {
        ShutterRinging x = with(EIGHT_RULES);
        Check.due("three rows", 1, x.told(pealOf(x, "01"), 2));
        Check.due("home again", 1, x.told(pealOf(x, "11"), 2));
        Check.due("the first row stays", 0, x.told(pealOf(x, "21"), 2));
        Check.due("the last row stays", 0, x.told(pealOf(x, "12"), 2));
        Check.due("all stay", 0, x.told(pealOf(x, "22"), 2));
    }

    private static void trueWithThirtyRules() {
        ShutterRinging x = with(EIGHT_RULES);
        Check.due("31 rows", 1, x.told(pealOf(x, LONG_PEAL), 2));
        Check.due("30 rows and the first again", 1, x.told(pealOf(x, ROUND_PEAL), 2));
        Check.due("29 rules of them", 1, x.told(pealOf(x, ROUND_PEAL.substring(0, 29)), 2));
        Check.due("the last one as that before", 0, x.told(pealOf(x, ROUND_PEAL.substring(0, 29) + "2"), 2));
        Check.due("the first one again before the last", 0, x.told(pealOf(x, "11" + ROUND_PEAL.substring(2)), 2));
        Check.due("one row thirty times", 0, x.told(pealOf(x, "2".repeat(30)), 2));
    }

    /** A peal is as true from one row as from another. */
    private static void trueFromEachRow() {
        ShutterRinging x = with(EIGHT_RULES);
        pealOf(x, "110");
        pealOf(x, ROUND_PEAL);
        for (String row : new String[] {"102345", "123450", "501234", "543210"}) {
            x.set(code(row));
            Check.due("not true from " + row, 0, x.told(0, 2));
            Check.due("true from " + row, 1, x.told(1, 2));
        }
    }

    /** "how often it has to be rung, 1 or more"; "how many different rows .. with these" */
    private static void rungOnceWithoutRules() {
        ShutterRinging x = with(EIGHT_RULES);
        x.set(44790);
        dueTold(x, pealOf(x, ""), 0, 1865, 1, 1, 1);
        dueTold(x, pealOf(x, "2"), 1, 1865, 1, 1, 1);
        dueTold(x, pealOf(x, "2".repeat(30)), 30, 1865, 0, 1, 1);
        dueTold(x, pealOf(x, "11"), 2, 1865, 1, 1, 2);
    }

    private static void rungOneToSixTimes() {
        String[] rules = {"012345", "102345", "120345", "123045", "123405", "123450", "201354", "103254"};
        int[] due = {1, 2, 3, 4, 5, 6, 6, 2};
        for (int rule = 0; rule < 8; rule++) {
            ShutterRinging x = with(rules[rule]);
            pealOf(x, "0");
            Check.due("the peal of " + rules[rule], due[rule], x.told(0, 3));
            Check.due("its rows", due[rule], x.told(0, 4));
        }
    }

    /** Rounds count once, though they are the last row, too; a row that is met twice counts once. */
    private static void rowsWithRounds() {
        ShutterRinging x = with(EIGHT_RULES);
        dueTold(x, pealOf(x, "1"), 1, code("102345"), 1, 2, 2);
        dueTold(x, pealOf(x, "111"), 3, code("102345"), 0, 2, 2);
        dueTold(x, pealOf(x, ROUND_PEAL), 30, 1865, 1, 1, 30);
        x.ring(0);
        dueTold(x, pealOf(x, "34"), 2, code("130524"), 1, 6, 12);
    }

    private static void mostRows() {
        ShutterRinging x = with(EIGHT_RULES);
        pealOf(x, LONG_PEAL);
        Check.due("its rules", 30, x.told(0, 0));
        Check.due("six times", 6, x.told(0, 3));
        Check.due("six times thirty rows", 180, x.told(0, 4));
        Check.due("telling rings nothing", 0, x.count(2));
        Check.due("the row stays", 1865, x.count(3));
    }

    /** "changes that were rung or undone in all (by peals, too)" */
    private static void changesOfPealsToo() {
        ShutterRinging x = with(EIGHT_RULES);
        pealOf(x, LONG_PEAL);
        pealOf(x, "");
        Check.due("at first", 0, x.count(2));
        x.ring(0);
        Check.due("rung", 1, x.count(2));
        x.undo(0);
        Check.due("undone is one more", 2, x.count(2));
        x.play(0);
        Check.due("each rule of a peal", 32, x.count(2));
        x.play(1);
        Check.due("none of an empty one", 32, x.count(2));
    }

    private static void setIsNoChange() {
        ShutterRinging x = with("123450");
        x.set(44790);
        x.set(1865);
        Check.due("count(2)", 0, x.count(2));
    }

    /** "0 if the row is even, 1 if it is odd: by the number of pairs of shutters of which the greater one is ahead" */
    private static void pairsOfShutters() {
        ShutterRinging x = with("012354");
        Check.due("no pair", 0, x.count(4));
        x.ring(0);
        Check.due("one pair", 1, x.count(4));
        x.set(44790);
        Check.due("all fifteen", 1, x.count(4));
        x.ring(0);
        Check.due("fourteen", 0, x.count(4));
    }

    // ---- ways

    /** "or the row is that one": no step, and no rule, though rules lead back to it */
    private static void theRowItself() {
        for (String row : new String[] {"012345", "205134", "543210"}) {
            ShutterRinging x = with("012345", "102345", "123450", "501234");
            x.set(code(row));
            Check.due("steps to itself", 0, x.steps(code(row)));
            Check.due("next to itself", -1, x.next(code(row)));
        }
    }

    /** "-1 if by none", "-1 if there is none" */
    private static void byNone() {
        ShutterRinging none = new ShutterRinging();
        Check.due("steps without rules", -1, none.steps(44790));
        Check.due("next without rules", -1, none.next(44790));
        ShutterRinging even = with("120345", "023145", "013425", "012453");
        Check.due("reach of the even rows", 360, even.reach());
        Check.due("steps to an odd row", -1, even.steps(code("102345")));
        Check.due("next to an odd row", -1, even.next(code("102345")));
        even.set(code("102345"));
        Check.due("steps to an even row", -1, even.steps(1865));
        Check.due("next to an even row", -1, even.next(1865));
        Check.due("steps to another odd row", 1, even.steps(code("210345")));
    }

    /** "(none undone)" */
    private static void noneUndone() {
        ShutterRinging x = with("123450");
        x.undo(0);
        int back = x.count(3);
        x.set(1865);
        Check.due("five on is one back", 5, x.steps(back));
        Check.due("its rule", 0, x.next(back));
        Check.due("farthest", 5, x.farthest());
    }

    /** "of several the one with the smallest number", and only of the ways of the fewest rules */
    private static void theSmallestFirstRule() {
        ShutterRinging x = with("102345", "012354", "102345", "102354", "102354", "012345");
        Check.due("both orders", 3, x.next(code("102354")));
        Check.due("in one step", 1, x.steps(code("102354")));
        Check.due("the same rule twice", 0, x.next(code("102345")));
        Check.due("the second one", 1, x.next(code("012354")));
        ShutterRinging last = with("012345", "012345", "012345", "012345", "012345", "012345", "012345", "102345");
        Check.due("the last of eight", 7, last.next(code("102345")));
        ShutterRinging equal = with("012354", "102345");
        Check.due("either order", 0, equal.next(code("102354")));
        Check.due("in two steps", 2, equal.steps(code("102354")));
    }

    /** "with it": without rules the row alone */
    private static void reachWithoutRules() {
        ShutterRinging x = new ShutterRinging();
        for (int time = 0; time < 2; time++) {
            Check.due("reach", 1, x.reach());
            Check.due("farthest", 0, x.farthest());
            Check.due("mean", 0.0, x.mean());
            tell(x, "012345");
        }
        Check.due("reach by a rule that moves none", 1, x.reach());
        tell(x, "102345");
        Check.due("reach by one that moves two", 2, x.reach());
        Check.due("farthest then", 1, x.farthest());
        Check.due("mean then", 0.5, x.mean());
    }

    /** Neighbours alone: 720 rows, the farthest of fifteen rules, the row turned round. */
    private static void reachAll() {
        ShutterRinging x = with("102345", "021345", "013245", "012435", "012354");
        Check.due("reach", 720, x.reach());
        Check.due("farthest", 15, x.farthest());
        Check.due("mean", 7.5, x.mean());
        Check.due("steps", 15, x.steps(44790));
        x.set(44790);
        Check.due("steps back", 15, x.steps(1865));
        Check.due("reach from there", 720, x.reach());
        Check.due("farthest from there", 15, x.farthest());
        Check.due("nothing is rung for it", 0, x.count(2));
    }

    /** "of all rows that can be reached, with the row itself": no whole number, and no rounding */
    private static void theMeanWithTheRowItself() {
        Check.due("0, 1, 2", 1.0, with("120345").mean());
        Check.due("0, 1, 2, 3, 4, 5", 2.5, with("123450").mean());
        Check.due("0, 1, 1", 2.0 / 3.0, with("120345", "201345").mean());
        Check.due("0, 1, 1, 1, 2, 2", 7.0 / 6.0, with("102345", "021345", "210345").mean());
    }

    /** Each rule told makes the ways anew, and each change of the row has them begin there. */
    private static void waysAfterEachRule() {
        ShutterRinging x = with("123450");
        Check.due("by turns", 5, x.steps(code("123450")));
        Check.due("by none", -1, x.steps(code("102345")));
        tell(x, "501234");
        Check.due("by a turn back", 1, x.steps(code("123450")));
        tell(x, "102345");
        Check.due("by the new rule", 1, x.steps(code("102345")));
        Check.due("which is", 2, x.next(code("102345")));
        x.ring(2);
        Check.due("there already", 0, x.steps(code("102345")));
        Check.due("back by it", 2, x.next(1865));
        x.undo(2);
        Check.due("at rounds again", 1, x.steps(code("102345")));
        pealOf(x, "2");
        x.play(0);
        Check.due("there by the peal", 0, x.steps(code("102345")));
        x.set(code("501234"));
        Check.due("one turn back", 1, x.next(1865));
    }

    /** Each of the five is answered rightly also as the first one that is asked after a rule. */
    private static void theFirstWayAsked() {
        Check.due("steps", 2, with("123450").steps(code("450123")));
        Check.due("next", 0, with("123450").next(code("450123")));
        Check.due("reach", 6, with("123450").reach());
        Check.due("farthest", 5, with("123450").farthest());
        Check.due("mean", 2.5, with("123450").mean());
    }

    // ---- the checksum

    private static List<Integer> toldInOrder(ShutterRinging x, String... peals) {
        List<Integer> told = new ArrayList<>();
        for (int what = 0; what < 5; what++) {
            told.add(x.count(what));
        }
        for (int rule = 0; rule < x.count(0); rule++) {
            for (int place = 0; place < 6; place++) {
                told.add(x.goes(rule, place));
            }
            for (int what = 0; what < 5; what++) {
                told.add(x.about(rule, what));
            }
        }
        for (int peal = 0; peal < peals.length; peal++) {
            for (int what = 0; what < 5; what++) {
                told.add(x.told(peal, what));
            }
            for (char rule : peals[peal].toCharArray()) {
                told.add(rule - '0');
            }
        }
        return told;
    }

    private static BigInteger unwrapped(List<Integer> numbers) {
        BigInteger d = BigInteger.valueOf(1123);
        for (int x : numbers) {
            d = d.multiply(BigInteger.valueOf(31)).add(BigInteger.valueOf(x));
        }
        return d;
    }

    /** "A number d starts with 1123": 0 rules, 0 peals, 0 changes, the code 1865, an even row */
    private static void theChecksumOfANewObject() {
        long due = 1123L * 31 * 31 * 31 * 31 * 31 + 1865L * 31;
        Check.due("digest", due, new ShutterRinging().digest());
    }

    /** "in its order"; a peal without rules has its tellings alone, one like another tells of its place. */
    private static void theChecksumInItsOrder() {
        String[][] peals = {{}, {""}, {"", "01"}, {"01", ""}, {"01", "10"}};
        for (String[] rung : peals) {
            ShutterRinging x = with("123450", "102345");
            for (String peal : rung) {
                pealOf(x, peal);
            }
            x.ring(0);
            Check.due("digest", unwrapped(toldInOrder(x, rung)).longValue(), x.digest());
            Check.due("digest again", unwrapped(toldInOrder(x, rung)).longValue(), x.digest());
        }
    }

    /** "which wraps around as a 64-bit integer" */
    private static void theChecksumWrapsAround() {
        String[] peals = {LONG_PEAL, ROUND_PEAL, "2".repeat(30), LONG_PEAL, "7".repeat(30), "6".repeat(30)};
        ShutterRinging x = with(EIGHT_RULES);
        for (String peal : peals) {
            pealOf(x, peal);
        }
        x.set(44790);
        x.play(0);
        BigInteger whole = unwrapped(toldInOrder(x, peals));
        Check.due("beyond 64 bits", true, whole.bitLength() > 1000);
        Check.due("digest of all that there can be", whole.longValue(), x.digest());
        Check.due("beyond 64 bits with one rule", true, unwrapped(toldInOrder(with("123450"))).bitLength() > 64);
        Check.due("digest of one rule", unwrapped(toldInOrder(with("123450"))).longValue(), with("123450").digest());
    }
}
