/** The edges of texts: each NUMBER's least and greatest, the longest NAMES, each byte, each length, as many as there can be. */
public final class TextEdgesTest {
    private static final Check CHECK = new Check();
    private static final String WORDS = "thicket by odds thorns berries lesson hours needs pupil at want knows go left right up down free tear pick year any when caught loop end stop";
    private static final String SEVEN = "lesson a hours 1;lesson b hours 1;lesson c hours 1;lesson d hours 1;lesson e hours 1;lesson f hours 1;lesson g hours 1;";
    private static final String FIVE = "pupil p at 0;pupil q at 0;pupil r at 0;pupil s at 0;pupil t at 0;";
    private static final String TWO = "lesson l hours 1;pupil p at 0;pupil q at 5;";

    public static void main(String[] args) {
        emptyTexts();
        numbersOfSchools();
        numbersOfAutumns();
        numbersAreTaken();
        fourDigits();
        names();
        wordsAreNoNames();
        eachByte();
        eachByteBehind();
        bytesOfInts();
        tokensGoOn();
        wordsAtTheBeginning();
        schoolsCutShort();
        autumnsCutShort();
        asManyLessonsAndPupils();
        lessonsOnce();
        toldOnce();
        toldAgain();
        oneNameOfOneThing();
        asManySteps();
        asDeep();
        ends();
        longestTexts();
        withoutAWord();
        CHECK.end();
    }

    // ---- how a text is tried

    private static void school(String text, int due) {
        ThornSchool x = new ThornSchool();
        x.told(-1);
        CHECK.done(x, text, Check.school(x, text), due);
        noFault(x, text);
    }

    private static void autumns(String text, int due) {
        ThornSchool x = Check.with(TWO);
        x.told(-1);
        CHECK.done(x, text, Check.autumns(x, text), due);
        noFault(x, text);
    }

    private static void noFault(ThornSchool x, String text) {
        CHECK.same(text + ", its fault", x.fault(0), 0);
        CHECK.same(text + ", its fault's place", x.fault(1), -1);
    }

    private static void schoolFault(String text, int fault, int place) {
        ThornSchool x = new ThornSchool();
        CHECK.fault(x, text, Check.school(x, text), fault, place);
        CHECK.none(x, text + ", the tape then", x.school(1), 1);
    }

    private static void autumnsFault(String text, int fault, int place) {
        ThornSchool x = Check.with(TWO);
        CHECK.fault(x, text, Check.autumns(x, text), fault, place);
        CHECK.none(x, text + ", the tape then", x.autumns(1), 1);
    }

    private static void fault(boolean isSchool, String text, int fault, int place) {
        if (isSchool) schoolFault(text, fault, place);
        else autumnsFault(text, fault, place);
    }

    private static void taken(boolean isSchool, String text, int due) {
        if (isSchool) school(text, due);
        else autumns(text, due);
    }

    // ---- the least

    private static void emptyTexts() {
        for (String blank : new String[] {"", " ", "\n", " \n\n  \n"}) {
            school(blank, 0);
            autumns(blank, 0);
        }
        ThornSchool x = Check.with(TWO);
        CHECK.done(x, "an empty text is a SCHOOL of nobody", x.school(0), 0);
        CHECK.same("lessons", x.told(2), 0);
        CHECK.same("pupils", x.told(3), 0);
        CHECK.same("wide", x.told(0), 4);
        CHECK.same("high", x.told(1), 4);
        CHECK.same("odds", x.told(4), 2);
    }

    // ---- NUMBERS

    /** A # stands for the NUMBER, which may be from least to most. */
    private static void number(boolean isSchool, String text, int least, int most, int due) {
        int place = text.indexOf('#');
        for (int v = least; v <= most; v++) {
            taken(isSchool, text.replace("#", "" + v), due);
            taken(isSchool, text.replace("#", String.format("%04d", v)), due);
        }
        for (int v : new int[] {least - 1, most + 1, most + 10, 10 * most + 10, 9998, 9999}) {
            if (v >= 0) fault(isSchool, text.replace("#", "" + v), 4, place);
        }
        fault(isSchool, text.replace("#", "10000"), 1, place);
        fault(isSchool, text.replace("#", "0000" + least), 1, place);
        fault(isSchool, text.replace("#", "99999999999"), 1, place);
        fault(isSchool, text.replace("#", "-1"), 1, place);
        fault(isSchool, text.replace("#", "x"), 2, place);
        fault(isSchool, text.replace("#", "at"), 2, place);
        fault(isSchool, text.replace("#", ";"), 2, place);
        fault(isSchool, text.replace("#", "<"), 2, place);
        fault(isSchool, text.replace("#", "?"), 1, place);
        fault(isSchool, text.substring(0, place), 2, place);
        // a NUMBER more can't stand behind it but where two of them stand
        if (!text.startsWith("# ", place)) fault(isSchool, text.replace("#", least + " 0"), 2, place + ("" + least).length() + 1);
    }

    private static void numbersOfSchools() {
        number(true, "thicket # by 1;", 1, 5, 0);
        number(true, "thicket 1 by #;", 1, 5, 0);
        number(true, "odds #;", 0, 16, 0);
        number(true, "thorns # 1;", 0, 15, 0);
        number(true, "berries # 1;", 0, 15, 0);
        number(true, "thicket 5 by 5;thorns # 0;", 0, 24, 0);
        number(true, "thicket 1 by 1;thorns # 9;", 0, 0, 0);
        number(true, "thicket 3 by 2;berries # 9;", 0, 5, 0);
        number(true, "thorns 0 #;", 0, 9, 0);
        number(true, "berries 15 #;", 0, 9, 0);
        number(true, "lesson l hours #;", 1, 9, 0);
        number(true, "pupil p at #;", 0, 15, 1);
        number(true, "thicket 5 by 5;pupil p at #;", 0, 24, 1);
        number(true, "thicket 1 by 1;pupil p at #;", 0, 0, 1);
        number(true, "pupil p at 0 want #;", 0, 9, 1);
    }

    private static void numbersOfAutumns() {
        number(false, "year #;", 1, 20, 1);
        number(false, "loop #;end;", 1, 99, 1);
        number(false, "when at p #;end;", 0, 15, 1);
        number(false, "when knows p<#;end;", 0, 9, 1);
        number(false, "when knows p > #;end;", 0, 9, 1);
        number(false, "when knows p=#;end;", 0, 9, 1);
        number(false, "when thorns #=1;end;", 0, 15, 1);
        number(false, "when thorns 0<#;end;", 0, 9, 1);
        number(false, "when thorns 0>#;end;", 0, 9, 1);
        number(false, "when thorns 15 = #;end;", 0, 9, 1);
        for (int cells : new int[] {1, 25}) {
            ThornSchool x = Check.with(cells == 1 ? "thicket 1 by 1;pupil p at 0;" : "thicket 5 by 5;pupil p at 0;");
            CHECK.done(x, "the last cell", Check.autumns(x, "when at p " + (cells - 1) + ";end;when thorns " + (cells - 1) + ">9;end;"), 2);
            CHECK.fault(x, "at: no such cell", Check.autumns(x, "when at p " + cells + ";end;"), 4, 10);
            CHECK.fault(x, "thorns: no such cell", Check.autumns(x, "when thorns " + cells + ">9;end;"), 4, 12);
        }
    }

    /** What is taken is what is told. */
    private static void numbersAreTaken() {
        for (int v = 1; v <= 5; v++) {
            CHECK.same("wide", Check.with("thicket " + v + " by 3;").told(0), v);
            CHECK.same("high", Check.with("thicket 2 by " + v + ";").told(1), v);
        }
        for (int v = 0; v <= 16; v++) CHECK.same("odds", Check.with("odds " + v + ";").told(4), v);
        for (int v = 0; v <= 9; v++) {
            CHECK.same("thorns", Check.with("thorns 15 " + v + ";").cell(15, 0), v);
            CHECK.same("berries", Check.with("berries 15 " + v + ";").cell(15, 1), v);
            CHECK.same("want", Check.with("pupil p at 1 want " + v + ";").pupil(0, 1), v);
            if (v > 0) CHECK.same("hours", Check.with("lesson l hours " + v + ";").lesson(0, 0), v);
        }
        for (int v = 0; v <= 15; v++) {
            CHECK.same("at", Check.with("pupil p at " + v + ";").pupil(0, 0), v);
            CHECK.same("thorns of " + v, Check.with("thorns " + v + " 7;").cell(v, 0), 7);
            CHECK.same("berries of " + v, Check.with("berries " + v + " 7;").cell(v, 1), 7);
        }
    }

    private static void fourDigits() {
        school("odds 0016;", 0);
        schoolFault("odds 0017;", 4, 5);
        schoolFault("odds 00016;", 1, 5);
        schoolFault("1234", 2, 0);
        schoolFault("12345", 1, 0);
        schoolFault("thicket 1 by 1;12345", 1, 15);
        schoolFault("thicket 1 12345 1;", 1, 10);
        schoolFault("thicket 1 1234 1;", 2, 10);
        schoolFault("lesson 12345", 1, 7);
        schoolFault("lesson 1234", 2, 7);
        schoolFault("lesson l hours 1 12345", 1, 17);
        schoolFault("lesson l hours 1 needs 12345", 1, 23);
        schoolFault("odds 1 12345", 1, 7);
        autumnsFault("12345", 1, 0);
        autumnsFault("1234", 2, 0);
        autumnsFault("go 12345", 1, 3);
        autumnsFault("go p 12345", 1, 5);
        autumnsFault("when 12345", 1, 5);
        autumnsFault("when knows p 12345", 1, 13);
        autumnsFault("any 12345", 1, 4);
    }

    // ---- NAMES, WORDS

    private static void names() {
        String eight = "abcdefgh";
        for (int n = 1; n <= 8; n++) {
            String name = eight.substring(0, n);
            school("lesson " + name + " hours 1;", 0);
            school("pupil " + name + " at 0;", 1);
            school("lesson " + name + " hours 1;lesson z hours 1 needs " + name + ";pupil zz at 0 knows " + name + ";", 1);
            ThornSchool x = Check.with("pupil " + name + " at 0;pupil z at 1;");
            CHECK.done(x, "its name", Check.autumns(x, "tear " + name + ";go " + name + " up;free z " + name + ";free " + name + " z;when caught " + name + ";end;"), 5);
        }
        for (String longer : new String[] {"abcdefghi", "abcdefghij", "aaaaaaaaaaaaaaaaaaaaaaaaaaaaaaaaaaaaaaaa", "aaaaaaaaaaaaaaaathicket"}) {
            schoolFault("lesson " + longer + " hours 1;", 2, 7);
            schoolFault("pupil " + longer + " at 0;", 2, 6);
            schoolFault("lesson abcdefgh hours 1;lesson z hours 1 needs " + longer + ";", 2, 47);
            schoolFault("lesson abcdefgh hours 1;pupil z at 0 knows " + longer + ";", 2, 43);
            schoolFault(longer, 2, 0);
            autumnsFault("tear " + longer + ";", 2, 5);
            autumnsFault("when caught " + longer + ";end;", 2, 12);
            autumnsFault("free p " + longer + ";", 2, 7);
            autumnsFault("go p " + longer + ";", 2, 5);
            autumnsFault(longer + ";", 2, 0);
        }
        // eight letters alike but for one are two NAMES
        school("pupil aaaaaaaa at 0;pupil baaaaaaa at 0;pupil aaaaaaab at 0;pupil aaaaaaa at 0;pupil zzzzzzzz at 0;", 5);
        ThornSchool x = Check.with("pupil baaaaaaa at 0;pupil aaaaaaab at 1;pupil aaaaaaaa at 2;");
        Check.autumns(x, "go aaaaaaab down;go aaaaaaaa right;");
        x.live(0);
        CHECK.same("the first stays", x.pupil(0, 0), 0);
        CHECK.same("the second goes down", x.pupil(1, 0), 5);
        CHECK.same("the third goes right", x.pupil(2, 0), 3);
    }

    private static void wordsAreNoNames() {
        for (String w : WORDS.split(" ")) {
            schoolFault("lesson " + w + " hours 1;", 2, 7);
            schoolFault("pupil " + w + " at 0;", 2, 6);
            schoolFault("lesson l hours 1;lesson m hours 1 needs " + w + ";", 2, 40);
            schoolFault("lesson l hours 1;pupil p at 0 knows " + w + ";", 2, 36);
            autumnsFault("tear " + w + ";", 2, 5);
            autumnsFault("free p " + w + ";", 2, 7);
            autumnsFault("when at " + w + " 0;end;", 2, 8);
            // a letter less or more is a NAME
            String more = w.length() < 8 ? w + "s" : w;
            String less = w.substring(0, w.length() - 1);
            if (!(" " + WORDS + " ").contains(" " + more + " ") && more.length() > w.length()) school("pupil " + more + " at 0;", 1);
            if (!(" " + WORDS + " ").contains(" " + less + " ")) school("lesson " + less + " hours 1;", 0);
            if (w.length() < 8) school("pupil x" + w + " at 0;", 1);
        }
        // what only the document's own words are called is a NAME, too
        for (String w : "school autumns part step wide high cell thorn berry lessons pupils name number test side compares mark touch a z".split(" ")) {
            school("pupil " + w + " at 0;", 1);
            school("lesson " + w + " hours 1;", 0);
        }
    }

    // ---- TOKENS

    private static boolean isBlank(int c) {
        return c == 10 || c == 32;
    }

    private static boolean beginsToken(int c) {
        return c >= 'a' && c <= 'z' || c >= '0' && c <= '9' || ";<>=".indexOf(c) >= 0;
    }

    private static void eachByte() {
        for (int c = 0; c < 256; c++) {
            String s = "" + (char) c;
            if (isBlank(c)) {
                school(s, 0);
                autumns(s, 0);
                school("odds" + s + "3" + s + ";" + s, 0);
                autumns("tear" + s + "p" + s + ";" + s, 1);
                continue;
            }
            int kind = beginsToken(c) ? 2 : 1;
            schoolFault(s, kind, 0);
            autumnsFault(s, kind, 0);
            schoolFault("odds 3;" + s, kind, 7);
            autumnsFault("any;  " + s, kind, 6);
            if (kind == 2) continue;
            schoolFault("odds" + s + "3;", 1, 4);
            schoolFault("odds 3" + s + ";", 1, 6);
            schoolFault("lesson" + s, 1, 6);
            schoolFault("lesson l hours 1 needs " + s, 1, 23);
            schoolFault("pupil p at 0 " + s, 1, 13);
            autumnsFault("go p " + s, 1, 5);
            autumnsFault("go " + s, 1, 3);
            autumnsFault("when " + s, 1, 5);
            autumnsFault("when knows p" + s + "1;", 1, 12);
            autumnsFault("loop 1;" + s, 1, 7);
        }
    }

    /** What stands on the tape behind the first n bytes is not read, whatever it is. */
    private static void eachByteBehind() {
        for (int c = 0; c < 256; c++) {
            ThornSchool x = Check.with(TWO);
            Check.feed(x, "odds 3;" + (char) c);
            CHECK.done(x, "school ahead of byte " + c, x.school(7), 0);
            x = Check.with(TWO);
            Check.feed(x, "any;" + (char) c);
            CHECK.done(x, "autumns ahead of byte " + c, x.autumns(4), 1);
        }
    }

    /** The highest byte of each int comes first, those above 127, too. */
    private static void bytesOfInts() {
        for (int c : new int[] {'?', 0, 1, 127, 128, 255}) {
            for (int place = 0; place < 20; place++) {
                int[] v = {0x20202020, 0x20202020, 0x20202020, 0x20202020, 0x20202020};
                int shift = 24 - place % 4 * 8;
                v[place / 4] = v[place / 4] & ~(255 << shift) | c << shift;
                ThornSchool x = new ThornSchool();
                CHECK.same("feed", x.feed(v[0], v[1], v[2], v[3], v[4]), 20);
                CHECK.fault(x, "byte " + c + " at " + place, x.school(20), 1, place);
                x.feed(0x20202020, 0x20202020, 0x20202020, 0x20202020, 0x20202020);
                CHECK.same("feed again", x.feed(v[0], v[1], v[2], v[3], v[4]), 40);
                CHECK.fault(x, "byte " + c + " at " + (20 + place), x.autumns(40), 1, 20 + place);
            }
        }
        ThornSchool x = new ThornSchool();
        CHECK.same("odds 12;", x.feed(0x6f646473, 0x2031323b, -1, Integer.MIN_VALUE, 0), 20);
        CHECK.done(x, "the first eight bytes", x.school(8), 0);
        CHECK.same("odds", x.told(4), 12);
    }

    private static void tokensGoOn() {
        school("odds3;", 0);
        school("thicket5by5;thorns24 9;berries24 9;lesson l hours9needs;pupil p at24want9knows l;", 1);
        school("odds\n\n 3 \n;\n", 0);
        schoolFault("odds 1 1;", 2, 7);
        schoolFault("od ds 1;", 2, 0);
        schoolFault("oddsx 1;", 2, 0);
        schoolFault("thorns 01;", 2, 9);
        schoolFault("lesson lhours 1;", 2, 14);
        schoolFault("lesson l hoursx 1;", 2, 9);
        schoolFault("pupil p at 0 wantx 1;", 2, 13);
        autumns("year1;", 1);
        autumns("when knows p<1;end;when knows p\n<\n1;end;", 2);
        autumnsFault("go p lef t;", 2, 5);
        autumnsFault("go p leftx;", 2, 5);
        autumnsFault("when knows p << 1;end;", 2, 14);
        autumnsFault("when knows p <= 1;end;", 2, 14);
        autumnsFault("when knows p == 1;end;", 2, 14);
        autumnsFault("anyany;", 2, 0);
        autumnsFault("any any;", 2, 4);
    }

    private static void wordsAtTheBeginning() {
        String parts = " thicket odds thorns berries lesson pupil ";
        String steps = " go free tear pick year when loop ";
        for (String w : WORDS.split(" ")) {
            boolean isPart = parts.contains(" " + w + " ");
            schoolFault(w, 2, isPart ? w.length() : 0);
            schoolFault("odds 1;\n" + w, w.equals("odds") ? 5 : 2, isPart && !w.equals("odds") ? w.length() + 8 : 8);
            if (w.equals("any") || w.equals("stop")) {
                autumns(w + ";", 1);
                autumnsFault(w, 2, w.length());
            } else {
                autumnsFault(w, 2, steps.contains(" " + w + " ") ? w.length() : 0);
                autumnsFault("any; " + w, 2, steps.contains(" " + w + " ") ? w.length() + 5 : 5);
            }
        }
    }

    // ---- each length

    /** NAMES of a letter, NUMBERS of a digit alone: cut within a word, that word can't stand there, else the end can't. */
    private static void schoolsCutShort() {
        String text = "thicket 3 by 2 ; odds 9;thorns 1 2 ;\nberries 5 6;lesson a hours 3;lesson b hours 4 needs;lesson c hours 5 needs a b ;"
            + "pupil p at 5;pupil q at 0 want 1;pupil r at 1 knows a c;pupil s at 2 want 3 knows b ; ";
        for (int n = 0; n <= text.length(); n++) {
            String cut = text.substring(0, n);
            ThornSchool x = new ThornSchool();
            // the whole text stands on the tape
            Check.feed(x, text);
            int got = x.school(n);
            int word = cutWord(text, n);
            if (cut.trim().isEmpty() || cut.trim().endsWith(";")) CHECK.done(x, "cut to " + n, got, cut.split("pupil", -1).length - 1);
            else CHECK.fault(x, "cut to " + n, got, 2, word < 0 ? n : word);
        }
    }

    /** Where a word of many letters begins that is cut by a length, or -1. */
    private static int cutWord(String text, int n) {
        if (n == 0 || n == text.length() || !Character.isLetter(text.charAt(n - 1)) || !Character.isLetter(text.charAt(n))) return -1;
        int begin = n - 1;
        while (begin > 0 && Character.isLetter(text.charAt(begin - 1))) begin--;
        return begin;
    }

    private static void autumnsCutShort() {
        String text = "go p left;go q right ;go p up;go p down;free p q;tear p ; pick q;year 9;any;\nwhen caught p;any;end;loop 2;when at q 5;"
            + "stop;when knows p < 3;end;end;any;end;when thorns 1>2;end ; stop;";
        for (int n = 0; n <= text.length(); n++) {
            String cut = text.substring(0, n);
            ThornSchool x = Check.with(TWO);
            Check.feed(x, text);
            int got = x.autumns(n);
            int word = cutWord(text, n);
            int steps = 0;
            int open = 0;
            for (String s : cut.split(";", -1)) {
                String step = s.trim();
                if (step.isEmpty()) continue;
                if (step.equals("end")) open--;
                else steps++;
                if (step.startsWith("when") || step.startsWith("loop")) open++;
            }
            boolean whole = cut.trim().isEmpty() || cut.trim().endsWith(";");
            if (whole && open == 0) CHECK.done(x, "cut to " + n, got, steps);
            else CHECK.fault(x, "cut to " + n, got, 2, word < 0 ? n : word);
        }
    }

    // ---- as many as there can be

    private static void asManyLessonsAndPupils() {
        for (int n = 0; n <= 7; n++) {
            String some = SEVEN.substring(0, 17 * n);
            school(some, 0);
            CHECK.same(n + " lessons", Check.with(some).told(2), n);
        }
        schoolFault(SEVEN + "lesson", 6, 119);
        schoolFault(SEVEN + "lesson h hours 1;", 6, 119);
        schoolFault(SEVEN + " lesson a hours 1;", 6, 120);
        schoolFault(SEVEN + "lesson ?", 6, 119);
        schoolFault(SEVEN + "lessonx", 2, 119);
        school(SEVEN + FIVE, 5);
        for (int n = 0; n <= 5; n++) {
            String some = FIVE.substring(0, 13 * n);
            school(some, n);
            CHECK.same(n + " pupils", Check.with(some).told(3), n);
        }
        schoolFault(FIVE + "pupil", 6, 65);
        schoolFault(FIVE + "\npupil u at 0;", 6, 66);
        schoolFault(FIVE + "pupil p at 99;", 6, 65);
        schoolFault(FIVE + "pupilx", 2, 65);
        school(FIVE + SEVEN, 5);
        schoolFault(FIVE + SEVEN + "pupil", 6, 184);
        schoolFault(FIVE + SEVEN + "lesson", 6, 184);
        ThornSchool x = Check.with(SEVEN.replace("g hours 1", "g hours 1 needs a b c d e f") + FIVE.replace("t at 0", "t at 0 knows g a b c d e f"));
        CHECK.same("needs six", x.lesson(6, 1), 63);
        CHECK.same("knows seven", x.pupil(4, 2), 127);
        CHECK.same("touch of seven", x.pupil(4, 6), 7);
    }

    private static void lessonsOnce() {
        String all = "a b c d e f";
        schoolFault(SEVEN.substring(0, 102) + "lesson g hours 1 needs " + all + " g;", 3, 102 + 35);
        for (int i = 0; i < 6; i++) {
            String again = all + " " + all.charAt(2 * i);
            schoolFault(SEVEN.substring(0, 102) + "lesson g hours 1 needs " + again + ";", 5, 102 + 35);
            schoolFault(SEVEN + "pupil p at 0 knows g " + again + ";", 5, 119 + 33);
            schoolFault(SEVEN + "pupil p at 0 knows " + all.charAt(2 * i) + " " + all.charAt(2 * i), 5, 119 + 21);
        }
        schoolFault(SEVEN + "pupil p at 0 knows a b c d e f g h", 3, 119 + 33);
        schoolFault("lesson a hours 1;lesson b hours 1 needs a a a", 5, 42);
        // other ones may need, know the same
        school("lesson a hours 1;lesson b hours 1 needs a;lesson c hours 1 needs a;pupil p at 0 knows a;pupil q at 0 knows a;", 2);
        schoolFault("lesson a hours 1 needs a;", 3, 23);
        schoolFault("lesson a hours 1 needs b;lesson b hours 1;", 3, 23);
        schoolFault("pupil p at 0 knows a;lesson a hours 1;", 3, 19);
        schoolFault("pupil q at 0;pupil p at 0 knows q;", 3, 32);
        schoolFault("pupil p at 0 knows p;", 3, 19);
        schoolFault("pupil p at 0;lesson a hours 1 needs p;", 3, 36);
        // as many NAMES as fit in may be none
        school("lesson a hours 1 needs;pupil p at 0 knows;pupil q at 0 want 0 knows;", 2);
        schoolFault("pupil p at 0 knows want 1;", 2, 19);
        schoolFault("pupil p at 0 want 1 want 1;", 2, 20);
        schoolFault("lesson a hours 1 needs needs;", 2, 23);
    }

    private static void toldOnce() {
        schoolFault("thicket 1 by 1;thicket 1 by 1;", 5, 15);
        schoolFault("thicket 4 by 4; thicket", 5, 16);
        schoolFault("thicket 1 by 1;thorns 0 0;thicket 1 by 1;", 5, 26);
        schoolFault("odds 2;odds 2;", 5, 7);
        schoolFault("odds 2;lesson a hours 1;odds", 5, 24);
        schoolFault("thorns 0 0;thicket 4 by 4;", 5, 11);
        schoolFault("berries 0 0;thicket 4 by 4;", 5, 12);
        schoolFault("pupil p at 0;thicket 4 by 4;", 5, 13);
        school("lesson a hours 1;thicket 4 by 4;", 0);
        school("odds 1;thicket 4 by 4;", 0);
        school("thicket 4 by 4;odds 1;", 0);
        school("thorns 0 1;berries 0 1;pupil p at 0;odds 1;", 1);
    }

    private static void toldAgain() {
        ThornSchool x = Check.with("thorns 1 9;thorns 2 3;thorns 1 4;berries 1 8;berries 1 0;thorns 2 0;");
        CHECK.same("the latest thorns", x.cell(1, 0), 4);
        CHECK.same("the latest, none", x.cell(2, 0), 0);
        CHECK.same("the latest berries", x.cell(1, 1), 0);
        CHECK.same("all", x.told(6), 4);
        CHECK.same("no berries", x.told(7), 0);
    }

    private static void oneNameOfOneThing() {
        schoolFault("lesson a hours 1;lesson a hours 2;", 3, 24);
        schoolFault("lesson a hours 1;pupil a at 0;", 3, 23);
        schoolFault("pupil a at 0;pupil a at 0;", 3, 19);
        schoolFault("pupil a at 0;lesson a hours 1;", 3, 20);
        schoolFault("lesson abcdefgh hours 1;pupil abcdefgh at 0;", 3, 30);
        schoolFault(SEVEN + "pupil g at 0;", 3, 125);
        schoolFault(FIVE + "lesson t hours 1;", 3, 72);
        // a faulty text's NAMES are not kept
        ThornSchool x = new ThornSchool();
        CHECK.fault(x, "two", Check.school(x, "lesson a hours 1;pupil b at 0;?"), 1, 30);
        CHECK.done(x, "its names again", Check.school(x, "lesson a hours 1;pupil b at 0;"), 1);
        CHECK.done(x, "and again", Check.school(x, "lesson b hours 1;pupil a at 0;"), 1);
        autumnsFault("tear l;", 3, 5);
        autumnsFault("tear r;", 3, 5);
    }

    private static void asManySteps() {
        String[] steps = {"go p left;", "free p q;", "tear p;", "pick p;", "year 1;", "any;", "when caught p;end;", "loop 1;end;", "stop;"};
        for (String step : steps) {
            String word = step.split("[ ;]")[0];
            autumns("any;".repeat(29) + step, 30);
            autumnsFault("any;".repeat(30) + step, 6, 120);
            autumnsFault("any;".repeat(30) + word, 6, 120);
            autumnsFault("any;".repeat(30) + "\n" + word + " ?", 6, 121);
        }
        autumns("loop 1;".repeat(3) + "any;".repeat(27) + "end;".repeat(3), 30);
        autumnsFault("loop 1;".repeat(3) + "any;".repeat(27) + "any;", 6, 129);
        autumnsFault("loop 1;".repeat(3) + "any;".repeat(27) + "loop", 6, 129);
        autumnsFault("loop 1;".repeat(3) + "any;".repeat(27) + "end;".repeat(4), 2, 141);
        autumnsFault("any;".repeat(30) + "end;", 2, 120);
        autumnsFault("any;".repeat(30) + "left;", 2, 120);
        autumnsFault("any;".repeat(30) + "?", 1, 120);
        autumns("loop1;end;".repeat(30), 30);
    }

    private static void asDeep() {
        String[] words = {"when caught p;", "loop 1;"};
        for (int i = 0; i < 16; i++) {
            String three = words[i & 1] + words[i >> 1 & 1] + words[i >> 2 & 1];
            String fourth = words[i >> 3];
            autumns(three + "any;end;end;end;", 4);
            autumns(three + "end;" + fourth + "end;end;end;" + fourth + "end;", 5);
            autumnsFault(three + fourth + "end;end;end;end;", 7, three.length());
            autumnsFault(three + "any; " + fourth.substring(0, 4), 7, three.length() + 5);
            autumnsFault(three + "end;" + fourth + fourth, 7, three.length() + 4 + fourth.length());
        }
    }

    private static void ends() {
        autumnsFault("end;", 2, 0);
        autumnsFault("any;end;", 2, 4);
        autumnsFault("loop 1;end;end;", 2, 11);
        autumnsFault("loop 1;", 2, 7);
        autumnsFault("loop 1;any; ", 2, 12);
        autumnsFault("loop 1;loop 1;end;", 2, 18);
        autumnsFault("loop 1;end", 2, 10);
        autumnsFault("loop 1;end any;", 2, 11);
        autumnsFault("loop 1;end 1;", 2, 11);
        autumnsFault("loop 1 any;end;", 2, 7);
        autumnsFault("when caught p any;end;", 2, 14);
        autumnsFault("loop 1;stop;", 2, 12);
    }

    // ---- the longest

    private static void longestTexts() {
        String end = "lesson l hours 1;pupil p at 15;";
        ThornSchool x = new ThornSchool();
        CHECK.done(x, "900 bytes", Check.school(x, " ".repeat(900 - end.length()) + end), 1);
        CHECK.same("the last byte counts", x.pupil(0, 0), 15);
        x = new ThornSchool();
        CHECK.fault(x, "a fault in the last of 900", Check.school(x, " ".repeat(899) + "?"), 1, 899);
        x = new ThornSchool();
        CHECK.fault(x, "the end behind 900", Check.school(x, " ".repeat(895) + "odds1"), 2, 900);
        x = Check.with(TWO);
        CHECK.done(x, "300 bytes", Check.autumns(x, " ".repeat(296) + "any;"), 1);
        CHECK.fault(x, "a fault in the last of 300", Check.autumns(x, " ".repeat(299) + "?"), 1, 299);
        CHECK.fault(x, "the end behind 300", Check.autumns(x, " ".repeat(297) + "any"), 2, 300);
        Check.feed(x, " ".repeat(296) + "any;;");
        CHECK.none(x, "301 bytes", x.autumns(301), 1);
        CHECK.done(x, "the tape is as it was: 300 of them", x.autumns(300), 1);
        CHECK.same("the tape is empty then", x.feed(0, 0, 0, 0, 0), 20);
        // as many PARTS as 900 bytes can have
        x = new ThornSchool();
        CHECK.done(x, "90 PARTS", Check.school(x, "thorns0 5;".repeat(90)), 0);
        CHECK.same("thorns", x.told(6), 5);
    }

    private static void withoutAWord() {
        ThornSchool x = Check.with("pupil p at 3;lesson l hours 1;");
        CHECK.same("4 wide without thicket", x.told(0), 4);
        CHECK.same("4 high without thicket", x.told(1), 4);
        CHECK.same("odds 2 without odds", x.told(4), 2);
        CHECK.same("no thorns without", x.told(6), 0);
        CHECK.same("no berries without", x.told(7), 0);
        CHECK.same("want 0 without", x.pupil(0, 1), 0);
        CHECK.same("knows nothing without", x.pupil(0, 2), 0);
        CHECK.same("needs none without", x.lesson(0, 1), 0);
    }
}
