/** Bounds within a text: its TOKENS, its lines, its FAULTS 1 to 5 and which of them is met first. */
final class TextBounds {
    private static final String AHEAD = "sort 9 9 9;";
    private static final String[] NAMES = {"sort", "fail", "must", "mark", "look", "keen"};
    private static final String[] LINES = {"sort 3 1 1 ;", "fail 0 1 ;", "must 0 1 ;", "mark 5 ;", "look 5 1 ;", "keen 5 ;"};

    private TextBounds() {
    }

    static void test(Bounds b) {
        tokensAreLong(b);
        blanksStandBetween(b);
        bytesOfTokens(b);
        unknownNames(b);
        longNumbers(b);
        everyPlaceOfEveryLine(b);
        everyNumberOfEveryLine(b);
        sortOfALineAhead(b);
        secondTime(b);
        ninthSort(b);
        firstMet(b);
    }

    private static void tokensAreLong(Bounds b) {
        b.says(Bounds.TERMS, "TOKENS, each as long as may be");
        b.taken("sort1 2 3;keen5;", 2);
        b.taken("sort50 99 99;", 1);
        b.faulty("sort 1 23;", 2, 9);
        b.faulty("look 45;", 3, 5);
        b.faulty("look 4 55;", 3, 7);
        b.faulty("sortsort", 1, 0);
        b.faulty("markmark 5;", 1, 0);
        b.faulty("mark 5;;", 2, 7);
    }

    private static void blanksStandBetween(Bounds b) {
        b.says(Bounds.TERMS, "blanks (32) between");
        b.taken("   sort    1   2   3   ;   keen   5   ;   ", 2);
        b.faulty("so rt 1 2 3;", 1, 0);
        b.faulty("mark 1 2;", 2, 7);
        for (int v : new int[] {0, 9, 10, 13, 31, 33, 128, 160, 255}) b.faulty("mark" + (char) v + "5;", 1, 4);
    }

    /** Every byte at the start of a line, behind a NAME and behind a NUMBER. */
    private static void bytesOfTokens(Bounds b) {
        b.says(Bounds.TERMS, "NAMES (a .. z), NUMBERS (1 or 2 figures), one ; .");
        for (int v = 0; v <= 255; v++) {
            boolean letter = Bounds.in(v, 97, 122);
            boolean figure = Bounds.in(v, 48, 57);
            char c = (char) v;
            if (v == 32) b.taken(" " + c, 0);
            else b.faulty(" " + c, figure || v == 59 ? 2 : 1, 1);
            if (letter) b.faulty("mark" + c, 1, 0);
            else if (figure || v == 32) b.faulty("mark" + c, 2, 5);
            else b.faulty("mark" + c, v == 59 ? 2 : 1, 4);
            if (v == 59) b.taken("mark 5" + c, 1);
            else if (figure || v == 32) b.faulty("mark 5" + c, 2, 7);
            else b.faulty("mark 5" + c, 1, 6);
        }
    }

    private static void unknownNames(Bounds b) {
        b.says(Bounds.TERMS, "1 no TOKEN, a NAME that is none of these");
        for (String name : NAMES) {
            b.faulty(" " + name + "s 5;", 1, 1);
            b.faulty(" a" + name + " 5;", 1, 1);
            b.faulty(" " + name.substring(1) + " 5;", 1, 1);
            b.faulty(" " + name.substring(0, 3) + " 5;", 1, 1);
            b.faulty(" aaaa" + name + " 5;", 1, 1);
            b.faulty(" " + name + name + " 5;", 1, 1);
            b.faulty(name.toUpperCase(java.util.Locale.ROOT) + " 5;", 1, 0);
            for (int i = 0; i < 4; i++) {
                for (char c = 'a'; c <= 'z'; c++) {
                    String other = name.substring(0, i) + c + name.substring(i + 1);
                    if (!java.util.List.of(NAMES).contains(other)) b.faulty(other + " 5;", 1, 0);
                }
            }
        }
        // One that is known, and is no NAME of a line's place, is another FAULT.
        b.faulty("mark keen;", 2, 5);
        b.faulty("mark keene;", 1, 5);
    }

    private static void longNumbers(Bounds b) {
        b.says(Bounds.TERMS, "a NUMBER that is too long (its first byte).");
        b.taken("mark 0;", 1);
        b.taken("mark 00;", 1);
        b.taken("mark 99;", 1);
        b.taken("sort 01 02 03;look 08 00;keen 01;", 3);
        for (String n : new String[] {"000", "005", "100", "999", "0000000005", "4294967296", "4294967301", "18446744073709551621"}) {
            b.faulty("mark " + n + ";", 1, 5);
            b.faulty("sort 1 " + n + " 1;", 1, 7);
            b.faulty("  " + n, 1, 2);
        }
    }

    /** For each place of each line: the end, every TOKEN that can not stand there, what is no TOKEN. */
    private static void everyPlaceOfEveryLine(Bounds b) {
        b.says(Bounds.TERMS, "2 a TOKEN that can not stand there (or the end: the length).");
        for (String line : LINES) {
            b.taken(AHEAD + line, 2);
            String[] tokens = line.split(" ");
            String ahead = AHEAD;
            for (int i = 0; i < tokens.length; i++) {
                boolean number = Character.isDigit(tokens[i].charAt(0));
                if (i > 0) {
                    b.faulty(ahead, 2, ahead.length());
                    b.faulty(ahead.trim(), 2, ahead.length() - 1);
                    b.faulty(ahead + "     ", 2, ahead.length() + 5);
                    for (String name : NAMES) b.faulty(ahead + name + " 1;", 2, ahead.length());
                }
                if (i == 0 || number) b.faulty(ahead + ";", 2, ahead.length());
                if (!number) b.faulty(ahead + "7 ;", 2, ahead.length());
                for (String none : new String[] {"#", "horse", "007", "-1", "" + (char) 200}) b.faulty(ahead + none + " ;", 1, ahead.length());
                ahead += tokens[i] + " ";
            }
        }
    }

    /** A line with one NUMBER left open, which is tried from 0 to 99. */
    private static void bounds(Bounds b, String ahead, String behind, int least, int most) {
        for (int v = 0; v <= 99; v++) {
            String text = ahead + v + behind;
            if (Bounds.in(v, least, most)) b.taken(text, text.replaceAll("[^;]", "").length());
            else b.faulty(text, 3, ahead.length());
        }
    }

    private static void everyNumberOfEveryLine(Bounds b) {
        b.says(Bounds.TERMS, "3 a NUMBER out of its bounds.");
        bounds(b, "sort ", " 5 5;", 1, 50);
        bounds(b, "sort 5 ", " 5;", 0, 99);
        bounds(b, "sort 5 5 ", ";", 0, 99);
        bounds(b, AHEAD + "fail 0 ", ";", 0, 10);
        bounds(b, AHEAD + "must 0 ", ";", 0, 9);
        bounds(b, "sort 1 5 5;must 0 ", ";", 0, 1);
        bounds(b, "sort 50 5 5;must 0 ", ";", 0, 50);
        bounds(b, AHEAD + "sort 4 1 1;must 1 ", ";", 0, 4);
        bounds(b, "mark ", ";", 0, 99);
        bounds(b, "look ", " 1;", 4, 8);
        bounds(b, "look 5 ", ";", 0, 20);
        bounds(b, "keen ", ";", 1, 10);
    }

    private static void sortOfALineAhead(Bounds b) {
        b.says(Bounds.TERMS, "fail, must: a SORT (of a line ahead), its number.");
        for (int sorts = 0; sorts <= 8; sorts++) {
            bounds(b, "sort 5 5 5;".repeat(sorts) + "fail ", " 1;", 0, sorts - 1);
            bounds(b, "sort 5 5 5;".repeat(sorts) + "must ", " 1;", 0, sorts - 1);
        }
        b.faulty("fail 0 1;sort 5 5 5;", 3, 5);
        b.faulty("must 0 1;sort 5 5 5;", 3, 5);
        b.faulty(AHEAD + "fail 1 1;sort 5 5 5;", 3, 16);
        // A SORT that was there ahead of the text is none of a line ahead.
        LemonMarket x = b.told("sort 5 5 5;sort 5 5 5;");
        Bounds.lay(x, AHEAD + "must 1 1;");
        b.due("text()", x.text(), -26);
        b.due("fault()", x.fault(), 3);
    }

    private static void secondTime(Bounds b) {
        b.says(Bounds.TERMS, "4 mark, look, keen for the second time (its NAME); fail, must of a SORT for the second time (its first NUMBER).");
        b.taken("mark 1;look 4 1;keen 1;", 3);
        b.faulty("mark 1;mark 1;", 4, 7);
        b.faulty("look 4 1;look 4 1;", 4, 9);
        b.faulty("keen 1;keen 1;", 4, 7);
        b.faulty("mark 1;look 4 1;keen 1;  mark 2;", 4, 25);
        b.faulty("mark 1;look 4 1;keen 1;look 5 2;", 4, 23);
        b.faulty("mark 1;look 4 1;keen 1;keen 2;", 4, 23);
        String eight = "sort1 1 1;".repeat(8);
        for (int s = 0; s < 8; s++) {
            for (String name : new String[] {"fail", "must"}) {
                String line = name + s + " 0;";
                b.taken(eight + line, 9);
                b.faulty(eight + line + line, 4, 92);
                b.faulty(eight + line + name + " 0" + s + " 1;", 4, 93);
                b.taken(eight + line + (name.equals("fail") ? "must" : "fail") + s + " 1;", 10);
                b.taken(eight + line + name + (s + 1) % 8 + " 1;", 10);
            }
        }
        // The next text may tell it again, whether this one was taken or not.
        LemonMarket x = b.told("sort 5 5 5;fail 0 1;must 0 1;mark 1;look 4 1;keen 1;");
        Bounds.lay(x, "sort 5 5 5;fail 0 2;must 0 2;mark 2;look 5 2;keen 2;x");
        b.due("text()", x.text(), -62);
        Bounds.lay(x, "sort 5 5 5;fail 0 3;must 0 3;mark 3;look 6 3;keen 3;");
        b.due("text()", x.text(), 6);
    }

    private static void ninthSort(Bounds b) {
        b.says(Bounds.TERMS, "5 the 9th SORT (its NAME).");
        String eight = "sort 1 1 1;".repeat(8);
        b.taken("sort 1 1 1;".repeat(7), 7);
        b.taken(eight, 8);
        b.taken(eight + "mark 1;look 4 1;keen 1;fail 7 1;must 7 1;", 13);
        b.faulty(eight + "sort 1 1 1;", 5, 88);
        b.faulty(eight + "mark 1;  sort 1 1 1;", 5, 97);
        b.faulty(eight + "sort", 5, 88);
        b.faulty("sort 1 1 1;".repeat(10), 5, 88);
        LemonMarket x = b.told(eight);
        Bounds.lay(x, eight);
        b.due("text() of eight in place of eight", x.text(), 8);
    }

    private static void firstMet(Bounds b) {
        b.says(Bounds.TERMS, "FAULTS, the first met as it is read (a TOKEN is read when the one before has been taken)");
        String eight = "sort 1 1 1;".repeat(8);
        // Each of 2 to 5 ahead of what is no TOKEN, and that ahead of each of them.
        b.faulty("7 #", 2, 0);
        b.faulty("sort 0 #", 3, 5);
        b.faulty("mark 1;mark #", 4, 7);
        b.faulty(AHEAD + "fail 0 1;fail 0 #", 4, 25);
        b.faulty(eight + "sort #", 5, 88);
        b.faulty("mark # 7", 1, 5);
        b.faulty("mark #;mark 1;mark 1;", 1, 5);
        b.faulty("sort 100", 1, 5);
        // Out of bounds is not told of a NUMBER that is too long, nor a second time of one out of bounds.
        b.faulty("keen 000;", 1, 5);
        b.faulty(AHEAD + "must 0 1;must 1 1;", 3, 25);
        b.faulty(AHEAD + "fail 0 1;fail 0 99;", 4, 25);
        b.faulty(AHEAD + "fail 0 1;fail 0;", 4, 25);
        b.faulty("keen 1;keen 0;", 4, 7);
        b.faulty("keen 1;keen", 4, 7);
        b.faulty(eight + "sort 0 1 1;", 5, 88);
        b.faulty(eight + "sort;", 5, 88);
        b.faulty("sort 0;", 3, 5);
        b.faulty("sort 1;0", 2, 6);
        b.faulty("mark 1 mark 1;", 2, 7);
    }
}
