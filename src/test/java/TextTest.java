/** Promises 2, 3, 27, 28 and 29: the text, the plans that are read from it, and the reports. */
public final class TextTest {
    private static final int BAD_ARGUMENT = ParkingTariff.BAD_ARGUMENT;
    private static final int OFFSET = 3;
    private static final int NUMBER = 4;
    private static final String SIX_BANDS =
            "band 0,1,5;band 1,1,5;band 2,1,5;band 3,1,5;band 4,1,5;band 5,1,5";

    public static void main(String[] args) {
        append();
        goodTexts();
        whatIsNotTold();
        words();
        blanksAndNumbers();
        clauses();
        ranges();
        order();
        seventhBand();
        whatComesFirst();
        emptiesTheText();
        earlierTextIsGone();
        reportStays();
        reportLevels();
        Checks.end();
    }

    private static void append() {
        ParkingTariff park = new ParkingTariff();
        Checks.due("append(-1, 1)", park.append(-1, 1), BAD_ARGUMENT);
        Checks.due("append(128, 1)", park.append(128, 1), BAD_ARGUMENT);
        Checks.due("append(97, 0)", park.append(97, 0), BAD_ARGUMENT);
        Checks.due("append(97, 91)", park.append(97, 91), BAD_ARGUMENT);
        Checks.due("append(97, MIN)", park.append(97, Integer.MIN_VALUE), BAD_ARGUMENT);
        Checks.due("append(97, MAX)", park.append(97, Integer.MAX_VALUE), BAD_ARGUMENT);
        Checks.due("nothing yet", park.count(11), 0);
        Checks.due("append(0, 1)", park.append(0, 1), 1);
        Checks.due("append(127, 3)", park.append(127, 3), 4);
        Checks.due("append(48, 87)", park.append(48, 87), ParkingTariff.FULL);
        Checks.due("a full text changes nothing", park.count(11), 4);
        Checks.due("append(48, 86)", park.append(48, 86), 90);
        Checks.due("append(48, 1)", park.append(48, 1), ParkingTariff.FULL);
        Checks.due("a wrong one is told first", park.append(128, 90), BAD_ARGUMENT);
        Checks.due("the text stays", park.count(11), 90);
        ParkingTariff other = new ParkingTariff();
        Checks.due("append(48, 90)", other.append(48, 90), 90);
    }

    private static void goodTexts() {
        ParkingTariff park = new ParkingTariff();
        Checks.due("all", Checks.read(park, 3, "free 60;cap 9999;lost 0;days;band 0,0,5;band 1439,999,240"), 2);
        Checks.plan("all", park, 3, 60, 9999, 1, 0, 2);
        Checks.band("all", park, 3, 0, 0, 0, 5);
        Checks.band("all", park, 3, 1, 1439, 999, 240);
        Checks.due("six", Checks.read(park, 2, SIX_BANDS), 6);
        Checks.plan("six", park, 2, 0, 0, 0, 2000, 6);
        for (int band = 0; band < 6; band++) {
            Checks.band("six", park, 2, band, band, 1, 5);
        }
        Checks.due("leading zeros", Checks.read(park, 1, "cap 0007;free 0000"), 1);
        Checks.plan("leading zeros", park, 1, 0, 7, 0, 2000, 1);
        Checks.due("the last word counts", Checks.read(park, 1, "free 3;lost 5;cap 4;lost 6;days;cap 9;free 8;days"), 1);
        Checks.plan("the last word counts", park, 1, 8, 9, 1, 6, 1);
        Checks.firstPlan("another plan", park, 0);
        Checks.due("ninety signs", park.append('d', 1), 1);
        Checks.write(park, "ays;days;days;days;days;days;days;days;days;days;days;days;days;days;days;days;cap 000001");
        Checks.due("ninety signs", park.count(11), 90);
        Checks.due("ninety signs are read", park.readPlan(0), ParkingTariff.BAD_TEXT);
        Checks.report("ninety signs", park, 0, 16, OFFSET, 88);
    }

    private static void whatIsNotTold() {
        ParkingTariff park = new ParkingTariff();
        Checks.read(park, 0, "free 7;cap 8;lost 9;days;band 0,1,5;band 9,2,6");
        Checks.due("days alone", Checks.read(park, 0, "days"), 1);
        Checks.plan("days alone", park, 0, 0, 0, 1, 2000, 1);
        Checks.band("days alone", park, 0, 0, 0, 100, 60);
        Checks.due("no second band", park.band(0, 1, 0), ParkingTariff.NONE);
        Checks.due("free alone", Checks.read(park, 0, "free 1"), 1);
        Checks.plan("free alone", park, 0, 1, 0, 0, 2000, 1);
        Checks.read(park, 0, "free 2;free 61");
        Checks.due("lost alone", Checks.read(park, 0, "lost 1"), 1);
        Checks.plan("nothing stays of a bad text", park, 0, 0, 0, 0, 1, 1);
    }

    private static void words() {
        Checks.badText("", 0, OFFSET, 0);
        Checks.badText("fre", 0, OFFSET, 0);
        Checks.badText("fre 1", 0, OFFSET, 0);
        Checks.badText("freee 1", 0, OFFSET, 0);
        Checks.badText("ffree 1", 0, OFFSET, 0);
        Checks.badText("Free 1", 0, OFFSET, 0);
        Checks.badText("fRee 1", 0, OFFSET, 0);
        Checks.badText(" free 1", 0, OFFSET, 0);
        Checks.badText("1", 0, OFFSET, 0);
        Checks.badText(";", 0, OFFSET, 0);
        Checks.badText("dayss", 0, OFFSET, 0);
        Checks.badText("bands 0,1,5", 0, OFFSET, 0);
        Checks.badText("capfree 1", 0, OFFSET, 0);
        Checks.badText("days;cup 1", 1, OFFSET, 5);
        Checks.badText("days;days;dayz", 2, OFFSET, 10);
        Checks.badText("lose 1", 0, OFFSET, 0);
        Checks.badText("cat 1", 0, OFFSET, 0);
        Checks.badText("bane 0,1,5", 0, OFFSET, 0);
        Checks.badText("daysz", 0, OFFSET, 0);
        Checks.badText("daysa", 0, OFFSET, 0);
        Checks.badText("rays", 0, OFFSET, 0);
        Checks.badText("tree 1", 0, OFFSET, 0);
        Checks.badText("map 1", 0, OFFSET, 0);
        Checks.badText("most 1", 0, OFFSET, 0);
        Checks.badText("land 0,1,5", 0, OFFSET, 0);
        Checks.badText("days`", 0, OFFSET, 4);
        Checks.badText("days{", 0, OFFSET, 4);
    }

    private static void blanksAndNumbers() {
        Checks.badText("free", 0, OFFSET, 4);
        Checks.badText("free1", 0, OFFSET, 4);
        Checks.badText("free;", 0, OFFSET, 4);
        Checks.badText("cap\t1", 0, OFFSET, 3);
        Checks.badText("cap", 0, OFFSET, 3);
        Checks.badText("cap ", 0, OFFSET, 4);
        Checks.badText("cap  1", 0, OFFSET, 4);
        Checks.badText("cap ;", 0, OFFSET, 4);
        Checks.badText("cap -1", 0, OFFSET, 4);
        Checks.badText("cap x", 0, OFFSET, 4);
        Checks.badText("cap /", 0, OFFSET, 4);
        Checks.badText("cap :", 0, OFFSET, 4);
        Checks.badText("cap 12345", 0, OFFSET, 8);
        Checks.badText("cap 00001", 0, OFFSET, 8);
        Checks.badText("cap 1 ", 0, OFFSET, 5);
        Checks.badText("cap 1,2", 0, OFFSET, 5);
        Checks.badText("cap 1x", 0, OFFSET, 5);
        Checks.badText("lost ", 0, OFFSET, 5);
        Checks.badText("band", 0, OFFSET, 4);
        Checks.badText("band 0", 0, OFFSET, 6);
        Checks.badText("band 0,", 0, OFFSET, 7);
        Checks.badText("band 0,1", 0, OFFSET, 8);
        Checks.badText("band 0,1,", 0, OFFSET, 9);
        Checks.badText("band 0;", 0, OFFSET, 6);
        Checks.badText("band 0,1;", 0, OFFSET, 8);
        Checks.badText("band 0, 1,5", 0, OFFSET, 7);
        Checks.badText("band 0 ,1,5", 0, OFFSET, 6);
        Checks.badText("band 0,,5", 0, OFFSET, 7);
        Checks.badText("band 0,1,5,6", 0, OFFSET, 10);
        Checks.badText("band 00000,1,5", 0, OFFSET, 9);
        Checks.badText("band 0,00001,5", 0, OFFSET, 11);
        Checks.badText("band 0,1,00051", 0, OFFSET, 13);
    }

    private static void clauses() {
        Checks.badText("days ", 0, OFFSET, 4);
        Checks.badText("days1", 0, OFFSET, 4);
        Checks.badText("days,days", 0, OFFSET, 4);
        Checks.badText("days;", 1, OFFSET, 5);
        Checks.badText("days;;", 1, OFFSET, 5);
        Checks.badText("days; days", 1, OFFSET, 5);
        Checks.badText("cap 1;free 2;", 2, OFFSET, 13);
        Checks.badText("cap 1;free 2 ;", 1, OFFSET, 12);
        Checks.badText("cap 1;free 2;band 0,1,5;cap", 3, OFFSET, 27);
    }

    private static void ranges() {
        Checks.badText("free 61", 0, NUMBER, 61);
        Checks.badText("free 9999", 0, NUMBER, 9999);
        Checks.badText("free 0061", 0, NUMBER, 61);
        Checks.badText("band 1440,1,5", 0, NUMBER, 1440);
        Checks.badText("band 0,1000,5", 0, NUMBER, 1000);
        Checks.badText("band 0,1,4", 0, NUMBER, 4);
        Checks.badText("band 0,1,0", 0, NUMBER, 0);
        Checks.badText("band 0,1,241", 0, NUMBER, 241);
        Checks.badText("band 1441,1001,241", 0, NUMBER, 1441);
        Checks.badText("band 0,1001,241", 0, NUMBER, 1001);
        Checks.badText("days;free 60;free 62", 2, NUMBER, 62);
        Checks.badText("band 0,1,5;band 1440,1,5", 1, NUMBER, 1440);
    }

    private static void order() {
        Checks.badText("band 1,1,5", 0, NUMBER, 1);
        Checks.badText("band 0,1,5;band 0,1,5", 1, NUMBER, 0);
        Checks.badText("band 0,1,5;days;band 9,1,5;band 9,1,5", 3, NUMBER, 9);
        Checks.badText("band 0,1,5;band 9,1,5;band 8,1,5", 2, NUMBER, 8);
        Checks.badText("band 7,1,4", 0, NUMBER, 4);
        Checks.badText("band 0,1,5;band 0,1000,5", 1, NUMBER, 1000);
        ParkingTariff park = new ParkingTariff();
        Checks.due("in order", Checks.read(park, 0, "band 0,1,5;days;band 1,2,6;cap 1;band 1439,3,7"), 3);
        Checks.band("in order", park, 0, 2, 1439, 3, 7);
    }

    private static void seventhBand() {
        Checks.badText(SIX_BANDS + ";band 9,1,5", 6, NUMBER, 9);
        Checks.badText(SIX_BANDS + ";band 9,1,4", 6, NUMBER, 4);
        Checks.badText(SIX_BANDS + ";band 9,1001,5", 6, NUMBER, 1001);
        Checks.badText(SIX_BANDS + ";band 2,1,5", 6, NUMBER, 2);
        Checks.badText(SIX_BANDS + ";days;band 8,1,5x", 7, NUMBER, 8);
        Checks.badText(SIX_BANDS + ";band 9,1", 6, OFFSET, 74);
        Checks.badText(SIX_BANDS + ";band 9,1,x", 6, OFFSET, 75);
    }

    private static void whatComesFirst() {
        Checks.badText("free 12345", 0, NUMBER, 1234);
        Checks.badText("free 61x", 0, NUMBER, 61);
        Checks.badText("free 61;fre", 0, NUMBER, 61);
        Checks.badText("cap 1x;free 61", 0, OFFSET, 5);
        Checks.badText("band 2000,1,x", 0, OFFSET, 12);
        Checks.badText("band 2000,1", 0, OFFSET, 11);
        Checks.badText("band 20000,1,5", 0, OFFSET, 9);
        Checks.badText("band 0,1,24000", 0, NUMBER, 2400);
        Checks.badText("band 3,1,5x", 0, NUMBER, 3);
        Checks.badText("band 0,1,5x", 0, OFFSET, 10);
    }

    private static void emptiesTheText() {
        ParkingTariff park = new ParkingTariff();
        Checks.write(park, "days");
        Checks.due("readPlan(4)", park.readPlan(4), BAD_ARGUMENT);
        Checks.due("the text after it", park.count(11), 0);
        Checks.write(park, "days");
        Checks.due("readPlan(-1)", park.readPlan(-1), BAD_ARGUMENT);
        Checks.due("the text after it", park.count(11), 0);
        Checks.due("no report after it", park.reportLevels(), 0);
        Checks.due("days", Checks.read(park, 0, "days"), 1);
        Checks.due("the text after it", park.count(11), 0);
        Checks.due("a new text", Checks.read(park, 0, "cap 5"), 1);
        Checks.plan("a new text", park, 0, 0, 5, 0);
        Checks.due("the empty text", park.readPlan(0), ParkingTariff.BAD_TEXT);
        Checks.plan("it changes nothing", park, 0, 0, 5, 0);
    }

    /** What an earlier, longer text had behind the end of a later one is not read. */
    private static void earlierTextIsGone() {
        String longer = "band 0,123,60;days";
        for (int end = 0; end < longer.length(); end++) {
            ParkingTariff park = new ParkingTariff();
            Checks.due("the longer one", Checks.read(park, 0, longer), 1);
            String shorter = longer.substring(0, end);
            boolean good = end == 12 || end == 13;
            if (end == 12) {
                Checks.due("a length of 6", Checks.read(park, 1, shorter), 1);
                Checks.band("a length of 6", park, 1, 0, 0, 123, 6);
            } else if (good) {
                Checks.due("a length of 60", Checks.read(park, 1, shorter), 1);
                Checks.band("a length of 60", park, 1, 0, 0, 123, 60);
            } else {
                Checks.due("'" + shorter + "'", Checks.read(park, 1, shorter), ParkingTariff.BAD_TEXT);
                boolean word = (end > 0 && end < 4) || end > 14;
                Checks.report("'" + shorter + "'", park, 1, end < 14 ? 0 : 1, OFFSET, word ? end < 14 ? 0 : 14 : end);
            }
        }
    }

    private static void reportStays() {
        ParkingTariff park = new ParkingTariff();
        Checks.read(park, 3, "days;free 61");
        Checks.report("first", park, 3, 1, NUMBER, 61);
        Checks.read(park, 1, "days");
        Checks.report("after a good text", park, 3, 1, NUMBER, 61);
        Checks.read(park, 9, "x");
        Checks.report("after a bad argument", park, 3, 1, NUMBER, 61);
        park.append(97, 90);
        park.append(97, 1);
        park.save();
        park.readPlan(0);
        Checks.report("replaced", park, 0, 0, OFFSET, 0);
        park.restore();
        Checks.report("after restore", park, 0, 0, OFFSET, 0);
    }

    private static void reportLevels() {
        ParkingTariff park = new ParkingTariff();
        Checks.due("none yet", park.reportLevels(), 0);
        Checks.due("no code yet", park.reportCode(0), ParkingTariff.NONE);
        Checks.due("no number yet", park.reportNumber(0), ParkingTariff.NONE);
        park.readPlan(1);
        Checks.report("the empty text", park, 1, 0, OFFSET, 0);
        for (int level : new int[] {-1, 3, Integer.MIN_VALUE, Integer.MAX_VALUE}) {
            Checks.due("reportCode(" + level + ")", park.reportCode(level), ParkingTariff.NONE);
            Checks.due("reportNumber(" + level + ")", park.reportNumber(level), ParkingTariff.NONE);
        }
    }
}
