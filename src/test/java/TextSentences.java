/** What the document says of the text and of the plans that are read from it: promises 2 and 3. */
final class TextSentences {
    private static final int BAD_ARGUMENT = ParkingTariff.BAD_ARGUMENT;
    private static final int FULL = ParkingTariff.FULL;
    private static final int BAD_TEXT = ParkingTariff.BAD_TEXT;
    private static final int OFFSET = 3;
    private static final int NUMBER = 4;
    private static final String SIX_BANDS =
            "band 0,1,5;band 1,1,5;band 2,1,5;band 3,1,5;band 4,1,5;band 5,1,5";

    private TextSentences() {
    }

    static void run() {
        append();
        readPlan();
        clauses();
        whatTheWordsTell();
        whatIsToldSeveralTimes();
        whatIsLookedAtFirst();
        errorOffsets();
    }

    /** The text is no plan: the report tells why, and the plan is as it was. */
    private static void bad(String text, int clause, int code, int number) {
        ParkingTariff park = new ParkingTariff();
        Checks.due("'" + text + "' readPlan", Parks.read(park, 2, text), BAD_TEXT);
        Checks.report("'" + text + "'", park, 2, clause, code, number);
        Checks.firstPlan("'" + text + "'", park, 2);
    }

    private static void good(String text, int bands) {
        ParkingTariff park = new ParkingTariff();
        Checks.due("'" + text + "' readPlan", Parks.read(park, 2, text), bands);
        Checks.noReport("'" + text + "'", park);
    }

    private static void append() {
        Section section = Section.of("Promise 2: append");
        section.holds("Appends a character to the text several times.", () -> {
            ParkingTariff park = Parks.withPlan("band 0,5,5");
            Parks.write(park, "cap ");
            park.append('1', 1);
            park.append('2', 3);
            Checks.due("a plan of it", park.readPlan(0), 1);
            Checks.due("the cap", park.plan(0, 1), 1222);
        });
        section.holds("`code`: the character, 0 to 127", () -> {
            Checks.due("append(0, 1)", new ParkingTariff().append(0, 1), 1);
            Checks.due("append(127, 1)", new ParkingTariff().append(127, 1), 1);
        });
        section.holds("`count`: how many times, 1 to 90", () -> {
            Checks.due("append(48, 1)", new ParkingTariff().append(48, 1), 1);
            Checks.due("append(48, 90)", new ParkingTariff().append(48, 90), 90);
        });
        section.holds("Returns the length of the text afterwards", () -> {
            ParkingTariff park = new ParkingTariff();
            Checks.due("append(100, 2)", park.append(100, 2), 2);
            Checks.due("append(100, 3)", park.append(100, 3), 5);
            park.readPlan(0);
            Checks.due("append(100, 4) to an empty text", park.append(100, 4), 4);
        });
        section.holds("BAD_ARGUMENT if an argument is out of range", () -> {
            ParkingTariff park = new ParkingTariff();
            for (int code : new int[] {-1, 128, Integer.MIN_VALUE, Integer.MAX_VALUE, 65536 + 97}) {
                Checks.due("append(" + code + ", 1)", park.append(code, 1), BAD_ARGUMENT);
            }
            for (int count : new int[] {0, -1, 91, Integer.MIN_VALUE, Integer.MAX_VALUE}) {
                Checks.due("append(97, " + count + ")", park.append(97, count), BAD_ARGUMENT);
            }
            Checks.due("the text is still empty", park.count(11), 0);
        });
        section.holds("FULL if the text would have more than 90 characters.", TextSentences::fullText);
    }

    private static void fullText() {
        ParkingTariff park = new ParkingTariff();
        Parks.write(park, "cap 5");
        Checks.due("86 behind 5", park.append('9', 86), FULL);
        Checks.due("90 behind 5", park.append('9', 90), FULL);
        Checks.due("the text stays", park.count(11), 5);
        Checks.due("it is read", park.readPlan(0), 1);
        Checks.due("its cap", park.plan(0, 1), 5);
        Checks.due("45", park.append('9', 45), 45);
        Checks.due("45 behind 45", park.append('9', 45), 90);
        Checks.due("1 behind 90", park.append('9', 1), FULL);
        Checks.due("90 behind 90", park.append('9', 90), FULL);
        Checks.due("90 stay", park.count(11), 90);
    }

    private static void readPlan() {
        Section section = Section.of("Promise 3: readPlan");
        section.holds("Reads the text as a plan, which replaces the present one.", () -> {
            ParkingTariff park = Parks.withPlan("free 7;cap 8;lost 9;days;band 0,1,5;band 9,2,6");
            Checks.plan("the first one", park, 0, 7, 8, 1, 9, 2);
            Checks.due("readPlan", Parks.read(park, 0, "cap 3;band 0,4,50"), 1);
            Checks.plan("the second one", park, 0, 0, 3, 0, 2000, 1);
            Checks.band("the second one", park, 0, 0, 0, 4, 50);
            Checks.due("its second band", park.band(0, 1, 0), ParkingTariff.NONE);
        });
        section.holds("Tickets go by the new plan.", () -> {
            ParkingTariff park = new ParkingTariff();
            park.enter(2);
            park.enter(1);
            park.advance(60);
            Parks.read(park, 2, "lost 700;band 0,30,20");
            Checks.due("a ticket of it", park.due(0, 60), 90);
            Checks.due("when it is lost", park.lose(0), 700);
            Checks.due("a ticket of another plan", park.due(1, 60), 100);
        });
        section.holds("The text is empty afterwards, also after an error, BAD_ARGUMENT included.", TextSentences::emptyText);
        section.holds("`plan`: the plan, 0 to 3", () -> {
            ParkingTariff park = new ParkingTariff();
            Checks.due("plan 0", Parks.read(park, 0, "cap 10"), 1);
            Checks.due("plan 3", Parks.read(park, 3, "cap 13"), 1);
            Checks.due("cap of plan 0", park.plan(0, 1), 10);
            Checks.firstPlan("another one", park, 1);
            Checks.firstPlan("another one", park, 2);
            Checks.due("cap of plan 3", park.plan(3, 1), 13);
        });
        section.holds("Returns the number of bands", () -> {
            good("cap 1", 1);
            good("band 0,1,5", 1);
            good("band 0,1,5;band 1,1,5", 2);
            good(SIX_BANDS, 6);
        });
        section.holds("BAD_ARGUMENT if there is no such plan", () -> {
            ParkingTariff park = new ParkingTariff();
            for (int plan : new int[] {-1, 4, Integer.MIN_VALUE, Integer.MAX_VALUE}) {
                Checks.due("readPlan(" + plan + ")", Parks.read(park, plan, "cap 5"), BAD_ARGUMENT);
                Checks.due("readPlan(" + plan + ") of no plan", Parks.read(park, plan, "cup"), BAD_ARGUMENT);
            }
            Checks.firstPlan("the first", park, 0);
            Checks.firstPlan("the last", park, 3);
            Checks.noReport("afterwards", park);
        });
        section.holds("BAD_TEXT if the text does not describe a plan.", () -> {
            ParkingTariff park = Parks.withPlan("free 1;cap 2;days;lost 3;band 0,4,5;band 6,7,8");
            Checks.due("readPlan", Parks.read(park, 0, "free 9;cap 9;lost 9;band 0,9,9;band 9,9,9;band 19,9,9;x"), BAD_TEXT);
            Checks.plan("the plan stays", park, 0, 1, 2, 1, 3, 2);
            Checks.band("the plan stays", park, 0, 0, 0, 4, 5);
            Checks.band("the plan stays", park, 0, 1, 6, 7, 8);
        });
    }

    private static void emptyText() {
        ParkingTariff park = new ParkingTariff();
        Checks.due("a plan", Parks.read(park, 0, "cap 5"), 1);
        Checks.due("its text", park.count(11), 0);
        Checks.due("no plan", Parks.read(park, 0, "cap 5;"), BAD_TEXT);
        Checks.due("its text", park.count(11), 0);
        Checks.due("readPlan(4)", Parks.read(park, 4, "cap 5;"), BAD_ARGUMENT);
        Checks.due("its text", park.count(11), 0);
        Checks.due("readPlan(-1)", Parks.read(park, -1, "cap 5;"), BAD_ARGUMENT);
        Checks.due("its text", park.count(11), 0);
        Checks.due("a plan behind them", Parks.read(park, 0, "days"), 1);
        Checks.due("nothing is left to read", park.readPlan(0), BAD_TEXT);
        Checks.report("nothing is left to read", park, 0, 0, OFFSET, 0);
        everyEndOfAText();
    }

    /** What an earlier, longer text had behind the end of a later one is not read. */
    private static void everyEndOfAText() {
        String longer = "band 0,123,60;days";
        for (int end = 0; end < longer.length(); end++) {
            ParkingTariff park = new ParkingTariff();
            Checks.due("the longer one", Parks.read(park, 0, longer), 1);
            boolean good = end == 12 || end == 13;
            Checks.due("its first " + end, Parks.read(park, 1, longer.substring(0, end)), good ? 1 : BAD_TEXT);
            if (good) {
                Checks.band("its first " + end, park, 1, 0, 0, 123, end == 12 ? 6 : 60);
                Checks.due("its first " + end + " are not by days", park.plan(1, 2), 0);
            }
        }
    }

    private static void clauses() {
        Section section = Section.of("Description");
        section.holds("A text of at most 90 characters describes a plan:", () -> {
            ParkingTariff park = new ParkingTariff();
            Parks.write(park, "days;".repeat(17) + "cap 1");
            Checks.due("its length", park.count(11), 90);
            Checks.due("90 characters", park.readPlan(0), 1);
            Checks.plan("90 characters", park, 0, 0, 1, 1, 2000, 1);
            good("days", 1);
        });
        section.holds("clause { \";\" clause },", () -> {
            bad("", 0, OFFSET, 0);
            good("days;days", 1);
            good("days;days;days", 1);
            bad(";", 0, OFFSET, 0);
            bad(";days", 0, OFFSET, 0);
            bad("days;", 1, OFFSET, 5);
            bad("days;;days", 1, OFFSET, 5);
            bad("days,days", 0, OFFSET, 4);
            bad("days; days", 1, OFFSET, 5);
            bad("days ;days", 0, OFFSET, 4);
        });
        section.holds("where a clause is one of free number cap number lost number days band number \",\" number \",\" number",
                () -> {
                    good("free 1", 1);
                    good("cap 1", 1);
                    good("lost 1", 1);
                    good("days", 1);
                    good("band 0,1,5", 1);
                    bad("free 1,1", 0, OFFSET, 6);
                    bad("days 1", 0, OFFSET, 4);
                    bad("band 0,1", 0, OFFSET, 8);
                    bad("band 0 1 5", 0, OFFSET, 6);
                    bad("band 0,1,5,5", 0, OFFSET, 10);
                    bad("band 0, 1,5", 0, OFFSET, 7);
                });
        section.holds("with exactly one blank between the word and the first number.", () -> {
            bad("free1", 0, OFFSET, 4);
            bad("free  1", 0, OFFSET, 5);
            bad("free\t1", 0, OFFSET, 4);
            bad("free,1", 0, OFFSET, 4);
            bad("band0,1,5", 0, OFFSET, 4);
            bad("band  0,1,5", 0, OFFSET, 5);
        });
        section.holds("A number is 1 to 4 digits, as many as there are.", TextSentences::digits);
    }

    private static void digits() {
        bad("cap ", 0, OFFSET, 4);
        good("cap 1", 1);
        good("cap 1234", 1);
        bad("cap 12345", 0, OFFSET, 8);
        bad("cap 00001", 0, OFFSET, 8);
        bad("cap -1", 0, OFFSET, 4);
        bad("cap +1", 0, OFFSET, 4);
        bad("cap /", 0, OFFSET, 4);
        bad("cap :", 0, OFFSET, 4);
        bad("cap 1/", 0, OFFSET, 5);
        bad("cap 1:", 0, OFFSET, 5);
        bad("band ,1,5", 0, OFFSET, 5);
        bad("band 0,,5", 0, OFFSET, 7);
        bad("band 0,1,", 0, OFFSET, 9);
        bad("band 00000,1,5", 0, OFFSET, 9);
        bad("band 0,00001,5", 0, OFFSET, 11);
        ParkingTariff park = Parks.withPlan("cap 0070;free 09;lost 1928");
        Checks.plan("as many as there are", park, 0, 9, 70, 0, 1928);
        Parks.read(park, 0, "band 0000,0345,0067");
        Checks.band("as many as there are", park, 0, 0, 0, 345, 67);
    }

    private static void whatTheWordsTell() {
        Section section = Section.of("Description");
        section.holds("free, cap and lost tell the free minutes, the cap and the lost fee;", () -> {
            Checks.plan("free 11", Parks.withPlan("free 11"), 0, 11, 0, 0, 2000, 1);
            Checks.plan("cap 12", Parks.withPlan("cap 12"), 0, 0, 12, 0, 2000, 1);
            Checks.plan("lost 13", Parks.withPlan("lost 13"), 0, 0, 0, 0, 13, 1);
        });
        section.holds("days means capping by days;", () ->
                Checks.plan("days", Parks.withPlan("days"), 0, 0, 0, 1, 2000, 1));
        section.holds("band tells the beginning, price and length of a band.", () -> {
            ParkingTariff park = Parks.withPlan("band 0,11,12;band 13,14,15");
            Checks.band("the first", park, 0, 0, 0, 11, 12);
            Checks.band("the second", park, 0, 1, 13, 14, 15);
        });
        section.holds("What is not told is as at first,", () -> {
            ParkingTariff park = Parks.withPlan("free 7;cap 8;lost 9;days;band 0,1,5;band 9,2,6");
            Parks.read(park, 0, "days");
            Checks.plan("days alone", park, 0, 0, 0, 1, 2000, 1);
            Checks.band("days alone", park, 0, 0, 0, 100, 60);
            Checks.due("days alone, second band", park.band(0, 1, 0), ParkingTariff.NONE);
            Parks.read(park, 0, "free 3;cap 4;lost 5;band 0,6,7;x");
            Parks.read(park, 0, "band 0,8,9");
            Checks.plan("nothing stays of a text that is no plan", park, 0, 0, 0, 0, 2000, 1);
            Parks.read(park, 0, "free 2");
            Checks.plan("free alone", park, 0, 2, 0, 0, 2000, 1);
            Checks.band("free alone", park, 0, 0, 0, 100, 60);
        });
    }

    private static void whatIsToldSeveralTimes() {
        Section section = Section.of("Description");
        section.holds("and if a word is told several times, the last one counts,", () -> {
            ParkingTariff park = Parks.withPlan("free 3;lost 5;cap 4;days;cap 9;free 8;days;lost 6;free 1;cap 2");
            Checks.plan("the last ones", park, 0, 1, 2, 1, 6, 1);
            Parks.read(park, 0, "free 5;cap 5;lost 5;free 0;cap 0;lost 0");
            Checks.plan("noughts count as well", park, 0, 0, 0, 0, 0, 1);
        });
        section.holds("except for bands, which are told in their order;", () -> {
            ParkingTariff park = Parks.withPlan("band 0,1,5;days;band 20,2,6;free 9;band 30,3,7");
            Checks.due("bands", park.plan(0, 4), 3);
            Checks.band("the first", park, 0, 0, 0, 1, 5);
            Checks.band("the second", park, 0, 1, 20, 2, 6);
            Checks.band("the third", park, 0, 2, 30, 3, 7);
        });
        section.holds("if bands are told, they are all bands,", () -> {
            ParkingTariff park = Parks.withPlan(SIX_BANDS);
            Parks.read(park, 0, "band 0,7,8");
            Checks.due("bands", park.plan(0, 4), 1);
            Checks.band("the only one", park, 0, 0, 0, 7, 8);
            Checks.due("no second one", park.band(0, 1, 0), ParkingTariff.NONE);
            Checks.due("no second one is used", park.unit(0, 1000, 0, 1), 0);
        });
        section.holds("and a seventh band has its beginning as a number out of range, after the ranges of its numbers.", () -> {
            good(SIX_BANDS, 6);
            good(SIX_BANDS + ";days", 6);
            bad(SIX_BANDS + ";band 9,1,5", 6, NUMBER, 9);
            bad(SIX_BANDS + ";band 9,1,4", 6, NUMBER, 4);
            bad(SIX_BANDS + ";band 9,1000,5", 6, NUMBER, 1000);
            bad(SIX_BANDS + ";band 1440,1,5", 6, NUMBER, 1440);
            bad(SIX_BANDS + ";band 2,1,5", 6, NUMBER, 2);
            bad(SIX_BANDS + ";days;band 9,1,5", 7, NUMBER, 9);
            bad(SIX_BANDS + ";band 9,1,5x", 6, NUMBER, 9);
            bad(SIX_BANDS + ";band 9,1", 6, OFFSET, 74);
            bad(SIX_BANDS + ";band 9,1,x", 6, OFFSET, 75);
        });
    }

    private static void whatIsLookedAtFirst() {
        Section section = Section.of("Description");
        section.holds("The clauses are looked at one after the other,", () -> {
            bad("cap 1x;free 61", 0, OFFSET, 5);
            bad("free 61;cup", 0, NUMBER, 61);
            bad("band 3,1,5;free 61", 0, NUMBER, 3);
            bad("days;free 62;free 63", 1, NUMBER, 62);
        });
        section.holds("the ranges of the numbers of a clause when its last number has been read,", () -> {
            bad("band 1440,1", 0, OFFSET, 11);
            bad("band 1440,1,", 0, OFFSET, 12);
            bad("band 1440,1000,x", 0, OFFSET, 15);
            bad("band 1440;", 0, OFFSET, 9);
            bad("band 1440,1,5", 0, NUMBER, 1440);
        });
        section.holds("with at most four digits,", () -> {
            bad("free 12345", 0, NUMBER, 1234);
            bad("free 00601", 0, OFFSET, 9);
            bad("band 0,1,24000", 0, NUMBER, 2400);
        });
        section.holds("and before the character behind it is looked at,", () -> {
            bad("free 61x", 0, NUMBER, 61);
            bad("free 61 ", 0, NUMBER, 61);
            bad("band 0,1,4x", 0, NUMBER, 4);
            bad("band 5,1,5x", 0, NUMBER, 5);
            bad("free 60x", 0, OFFSET, 7);
        });
        section.holds("in the order of the numbers;", () -> {
            bad("band 1440,1000,4", 0, NUMBER, 1440);
            bad("band 1439,1000,4", 0, NUMBER, 1000);
            bad("band 1439,999,4", 0, NUMBER, 4);
        });
        section.holds("a first band that does not begin at 0,", () -> {
            bad("band 1,1,5", 0, NUMBER, 1);
            bad("days;band 1439,1,5", 1, NUMBER, 1439);
            good("band 0,1,5", 1);
        });
        section.holds("or another one that does not begin later than the one before,"
                + " has its beginning as the number out of order,", () -> {
            bad("band 0,1,5;band 0,1,5", 1, NUMBER, 0);
            bad("band 0,1,5;days;band 9,1,5;band 9,1,5", 3, NUMBER, 9);
            bad("band 0,1,5;band 9,1,5;band 8,1,5", 2, NUMBER, 8);
            good("band 0,1,5;band 1,1,5", 2);
            good("band 0,1,5;band 8,1,5;band 9,1,5", 3);
        });
        section.holds("after the ranges.", () -> {
            bad("band 7,1000,5", 0, NUMBER, 1000);
            bad("band 7,1,4", 0, NUMBER, 4);
            bad("band 0,1,5;band 0,1,241", 1, NUMBER, 241);
        });
    }

    private static void errorOffsets() {
        Section section = Section.of("Description");
        section.holds("A word that is none of these has its error offset at its first character;", () -> {
            for (String word : new String[] {"f", "fre", "frea", "freee", "tree", "ca", "cat", "map", "capp", "los", "lose",
                "most", "losts", "da", "dayz", "rays", "dayss", "ban", "bane", "land", "bands", "capfree", "number"}) {
                bad(word, 0, OFFSET, 0);
                bad(word + " 1", 0, OFFSET, 0);
                bad("free 1;" + word + " 0,1,5", 1, OFFSET, 7);
            }
        });
        section.holds("otherwise the error offset is that of the first character that cannot continue a clause,", () -> {
            bad("Free 1", 0, OFFSET, 0);
            bad("1", 0, OFFSET, 0);
            bad(" days", 0, OFFSET, 0);
            bad("days;1", 1, OFFSET, 5);
            bad("free x", 0, OFFSET, 5);
            bad("free 1 ", 0, OFFSET, 6);
            bad("band 0;1,5", 0, OFFSET, 6);
            bad("band 0,1;5", 0, OFFSET, 8);
            bad("band 0,1,5 ", 0, OFFSET, 10);
            bad("days;lost 1;cap 2?", 2, OFFSET, 17);
        });
        section.holds("or the length of the text if it ends too early.", () -> {
            bad("", 0, OFFSET, 0);
            bad("free", 0, OFFSET, 4);
            bad("cap", 0, OFFSET, 3);
            bad("lost ", 0, OFFSET, 5);
            bad("band", 0, OFFSET, 4);
            bad("band ", 0, OFFSET, 5);
            bad("band 0", 0, OFFSET, 6);
            bad("band 0,", 0, OFFSET, 7);
            bad("band 0,1", 0, OFFSET, 8);
            bad("band 0,1,", 0, OFFSET, 9);
            bad("days;free 1;", 2, OFFSET, 12);
            bad("days;".repeat(18), 18, OFFSET, 90);
        });
        section.holds("A word is the longest row of small letters.", () -> {
            bad("daysfree 1", 0, OFFSET, 0);
            bad("freex1", 0, OFFSET, 0);
            bad("daysa", 0, OFFSET, 0);
            bad("daysz", 0, OFFSET, 0);
            bad("days`", 0, OFFSET, 4);
            bad("days{", 0, OFFSET, 4);
            bad("daysA", 0, OFFSET, 4);
            bad("days1", 0, OFFSET, 4);
            bad("freeX 1", 0, OFFSET, 4);
            bad("fRee 1", 0, OFFSET, 0);
        });
    }
}
