/** Promise 3 and the terms of a TEXT: its tokens, its lines, its limits, its FAULTS; each boundary case by itself. */
public final class EdgesOfTheTextTest {
    private static void good(String sentence, String text) {
        Check.edge("3 " + sentence + ": " + shown(text), () -> {
            TwoForOne x = new TwoForOne();
            Check.due("town", Check.tell(x, text), 0);
            Check.due("fault", x.fault(), -1);
            Check.due("refused", x.count(9), 0);
        });
    }

    private static void fault(String sentence, int number, int place, String text) {
        Check.edge("3 " + sentence + ": " + shown(text), () -> {
            TwoForOne x = new TwoForOne();
            Check.due("town", Check.tell(x, text), number);
            Check.due("fault", x.fault(), place);
            Check.due("refused", x.count(9), 1);
        });
    }

    private static String shown(String text) {
        String line = text.replace("\n", "\\n").replace("\0", "\\0");
        return line.length() < 60 ? line : line.substring(0, 40) + " .. " + line.substring(line.length() - 16);
    }

    public static void main(String[] args) {
        everyByte();
        words();
        numbers();
        lines();
        sorts();
        people();
        parts();
        pairs();
        laws();
        ties();
        meetings();
        tooShort();
        firstAndLeast();
        anew();
        gone();
        stays();
        Check.end();
    }

    /** All 256 bytes, where a blank may stand, where a word goes on, where a number goes on. */
    private static void everyByte() {
        for (int value = 0; value < 256; value++) {
            char sign = (char) value;
            boolean blank = value == 32 || value == 10;
            boolean letter = value >= 'a' && value <= 'z';
            boolean figure = value >= '0' && value <= '9';
            int behindWord = blank ? -1 : letter ? 0 : sign == ';' ? 7 : 6;
            Check.edge("3 blanks, words, numbers, signs: byte " + sign(value) + " between two numbers", () -> {
                TwoForOne x = new TwoForOne();
                // a figure makes one number of three, which is no sort that there is
                Check.due("town", Check.tell(x, "person has 0" + sign + "1;"), blank ? 0 : figure ? 3 : 1);
                Check.due("fault", x.fault(), blank ? -1 : figure ? 11 : 12);
            });
            Check.edge("3 blanks, words, numbers, signs: byte " + sign(value) + " behind a word", () -> {
                TwoForOne x = new TwoForOne();
                Check.due("town", Check.tell(x, "person" + sign + ";"), blank ? 0 : 1);
                Check.due("fault", x.fault(), behindWord);
            });
            Check.edge("3 blanks, words, numbers, signs: byte " + sign(value) + " alone", () -> {
                TwoForOne x = new TwoForOne();
                Check.due("town", Check.tell(x, " " + sign), blank ? 0 : 1);
                Check.due("fault", x.fault(), blank ? -1 : 1);
            });
        }
    }

    private static String sign(int value) {
        return value > 32 && value < 127 ? value + " " + (char) value : String.valueOf(value);
    }

    private static void words() {
        String[] all = {"sorts", "person", "has", "worth", "pair", "falls", "law", "spoon", "burns", "tie", "meet"};
        String[] ahead = {"", "", "person ", "person ", "sorts 2;person ", "person ", "", "law 1 ", "law 1 ", "sorts 2;",
            "person;person;"};
        String[] behind = {" 1;", ";", " 0 1;", " 0 1;", " 0 1 1;", " 1;", " 1;", " 0;", ";", " 0 0 1;", " 0 1;"};
        for (int k = 0; k < all.length; k++) {
            String word = all[k];
            good("the word", ahead[k] + word + behind[k]);
            int at = ahead[k].length();
            fault("a word, the longest row: one sign more", 1, at, ahead[k] + word + "s" + behind[k]);
            fault("a word, the longest row: one sign more ahead", 1, at, ahead[k] + "a" + word + behind[k]);
            fault("a word: one sign less", 1, at, ahead[k] + word.substring(0, word.length() - 1) + behind[k]);
            fault("a word: its first sign is missing", 1, at, ahead[k] + word.substring(1) + behind[k]);
            String other = word.substring(0, word.length() - 1) + (char) (word.charAt(word.length() - 1) ^ 1);
            fault("a word: another last sign", 1, at, ahead[k] + other + behind[k]);
            fault("a word: a capital", 1, at, ahead[k] + word.substring(0, 1).toUpperCase() + word.substring(1) + behind[k]);
        }
        good("no blanks are needed", "sorts2;person has0 1worth1 2pair0 1 3falls4;law2spoon1burns;tie0 0 1;");
        good("any blanks may stand", " \n sorts \n\n 2 \n ;\nperson\nhas\n0\n1\n;\n");
        fault("blanks within a word", 1, 0, "per son;");
        fault("two words as one", 1, 0, "personhas 0 1;");
        fault("two words as one", 1, 6, "law 1 spoonburns;");
        fault("no word of the language", 1, 0, "z;");
    }

    private static void numbers() {
        String[] ahead = {"sorts ", "sorts 2;person has ", "person has 0 ", "sorts 2;person worth ", "person worth 0 ",
            "sorts 2;person pair ", "sorts 2;person pair 0 ", "sorts 2;person pair 0 1 ", "person falls ", "law ",
            "sorts 2;law 1 spoon ", "sorts 2;tie ", "sorts 2;tie 0 ", "sorts 2;tie 0 0 ", "person;person;meet ",
            "person;person;meet 0 "};
        String[] number = {"2", "1", "1", "1", "1", "0", "1", "1", "1", "1", "1", "0", "0", "1", "0", "1"};
        String[] behind = {";", " 1;", ";", " 1;", ";", " 1 1;", " 1;", ";", ";", ";", ";", " 0 1;", " 1;", ";", " 1;", ";"};
        for (int k = 0; k < ahead.length; k++) {
            int at = ahead[k].length();
            String text = ahead[k] + "%s" + behind[k];
            good("a NUMBER of one figure", text.formatted(number[k]));
            good("a NUMBER of four figures", text.formatted("000" + number[k]));
            fault("a NUMBER of 5 digits", 2, at, text.formatted("0000" + number[k]));
            fault("a NUMBER of 6 digits", 2, at, text.formatted("00000" + number[k]));
            fault("a NUMBER of 5 digits, the first no 0", 2, at, text.formatted("1000" + number[k]));
            // these are 0 and 1 to the base 2 to the 32nd, and to the 64th
            fault("a NUMBER of 10 digits", 2, at, text.formatted(number[k].equals("0") ? "4294967296" : "4294967297"));
            fault("a NUMBER of 20 digits", 2, at, text.formatted(number[k].equals("0") ? "18446744073709551616" : "18446744073709551617"));
            fault("a NUMBER must stand there", 1, at, text.formatted(";"));
            fault("a NUMBER must stand there", 1, at, text.formatted("person"));
        }
        fault("two rows of figures are two NUMBERS", 1, 15, "person falls 1 2;");
    }

    private static void lines() {
        good("no LINE at all", "");
        good("no LINE, but a blank", " ");
        good("no LINE, but blanks", "\n \n");
        fault("no LINE is empty", 1, 0, ";");
        fault("no LINE is empty", 1, 7, "person;;");
        fault("a LINE begins with a word", 1, 0, "1;");
        for (String word : new String[] {"has", "worth", "pair", "falls", "spoon", "burns"}) {
            fault("what begins no LINE", 1, 0, word + " 0 1;");
            fault("what begins no LINE", 1, 7, "person;" + word + " 0 1;");
        }
        for (String line : new String[] {"sorts 2", "person", "person has 0 1", "law 1", "law 1 spoon 0", "law 1 burns"}) {
            good("each LINE ends with ;", line + ";");
            fault("each LINE ends with ;", 1, line.length(), line);
            fault("each LINE ends with ;", 1, line.length() + 1, line + " \0");
        }
        good("LINES in any order", "law 1;person;person;meet 0 1;person;meet 0 2;");
        good("LINES in any order", "sorts 2;tie 0 0 1;law 3;person;");
    }

    private static void sorts() {
        for (int k = 1; k <= 8; k++) {
            int many = k;
            Check.edge("3 sorts (1 to 8): " + k, () -> Check.due("sorts", Check.town("sorts " + many + ";").count(1), many));
        }
        fault("sorts (1 to 8): 0", 2, 6, "sorts 0;");
        fault("sorts (1 to 8): 9", 2, 6, "sorts 9;");
        fault("sorts (1 to 8): the most of four figures", 2, 6, "sorts 9999;");
        Check.edge("3 sorts: 1 without", () -> Check.due("sorts", Check.town("person;").count(1), 1));
        Check.edge("3 sorts: 1 without, behind a town of 8", () -> {
            TwoForOne x = Check.town("sorts 8;");
            Check.tell(x, "person;");
            Check.due("sorts", x.count(1), 1);
        });
        good("sorts is the first LINE, blanks ahead of it", "\n sorts 3;");
        fault("sorts that isn't the first LINE", 5, 8, "sorts 2;sorts 2;");
        fault("sorts that isn't the first LINE", 5, 7, "person;sorts 2;");
        fault("sorts that isn't the first LINE", 5, 6, "law 2;sorts 2;");
        fault("sorts that isn't the first LINE", 5, 18, "sorts 2;tie 0 0 1;sorts 2;");
        fault("sorts that isn't the first LINE", 5, 23, "person;person;meet 0 1;sorts 1;");
        fault("sorts that isn't the first LINE, whatever is behind it", 5, 7, "person;sorts");
        fault("sorts within a LINE can't stand there", 1, 7, "person sorts 2;");
        fault("sorts has one NUMBER", 1, 8, "sorts 2 2;");
        fault("SORTS of a text without sorts", 3, 11, "person has 1 1;");
        for (int k = 1; k <= 8; k++) {
            String head = "sorts " + k + ";person ";
            good("the last SORT that there is", head + "has " + (k - 1) + " 1 worth " + (k - 1) + " 1;");
            fault("the first SORT that there isn't", 3, 19, head + "has " + k + " 1;");
            fault("the first SORT that there isn't", 3, 21, head + "worth " + k + " 1;");
        }
    }

    private static void people() {
        for (int k = 0; k <= 6; k++) {
            int many = k;
            Check.edge("3 PEOPLE (at most 6): " + k, () -> {
                TwoForOne x = Check.town("person;".repeat(many));
                Check.due("people", x.count(0), many);
                Check.due("has of the last", Check.outcome(() -> x.has(many - 1, 0)), many > 0 ? "0" : "NoSuchElementException");
                Check.none("has of one more", () -> x.has(many, 0));
            });
        }
        fault("the first TOKEN of the 7th PERSON", 2, 42, "person;".repeat(7));
        fault(".. whatever is behind it", 2, 42, "person;".repeat(6) + "person foo");
        fault(".. at the end of the text", 2, 43, "person;".repeat(6) + " person");
        fault(".. other LINES between", 2, 48, "person;".repeat(5) + "law 1;person;person;");
        good("other LINES behind the 6th", "person;".repeat(6) + "law 1;meet 0 5;");
    }

    private static void parts() {
        Check.edge("3 person: nothing is told of him", () -> {
            TwoForOne x = Check.town("person;");
            Check.due("has", x.has(0, 0), 0);
            Check.due("likes", x.likes(0, 0), 0);
        });
        good("has (0 to 20): 0", "person has 0 0;");
        good("has (0 to 20): 20", "person has 0 20;");
        fault("has (0 to 20): 21", 2, 13, "person has 0 21;");
        fault("has (0 to 20): 9999", 2, 13, "person has 0 9999;");
        good("worth (0 to 99): 0", "person worth 0 0;");
        good("worth (0 to 99): 99", "person worth 0 99;");
        fault("worth (0 to 99): 100", 2, 15, "person worth 0 100;");
        good("falls (0 to 100): 0", "person falls 0;");
        good("falls (0 to 100): 100", "person falls 100;");
        fault("falls (0 to 100): 101", 2, 13, "person falls 101;");
        for (int k : new int[] {0, 1, 19, 20}) {
            Check.edge("3 has what was told: " + k, () -> Check.due("has", Check.town("person has 0 " + k + ";").has(0, 0), k));
        }
        for (int k : new int[] {0, 1, 98, 99}) {
            Check.edge("3 likes what was told: " + k, () -> Check.due("likes", Check.town("person worth 0 " + k + ";").likes(0, 0), k));
        }
        good("all SORTS, each once", "sorts 8;person has 0 1 has 1 1 has 2 1 has 3 1 has 4 1 has 5 1 has 6 1 has 7 1;");
        fault("a SORT that one has, that was told already", 5, 19, "person has 0 1 has 0 1;");
        fault(".. if 0 was told", 5, 19, "person has 0 0 has 0 0;");
        fault(".. others between", 5, 45, "sorts 2;person has 1 1 has 0 1 worth 1 1 has 1 1;");
        fault("a SORT that is worth something to one, that was told already", 5, 23, "person worth 0 1 worth 0 1;");
        fault(".. if 0 was told", 5, 23, "person worth 0 0 worth 0 0;");
        fault("the last SORT, told already", 5, 27, "sorts 8;person has 7 1 has 7 1;");
        fault("the last SORT, told already", 5, 31, "sorts 8;person worth 7 1 worth 7 1;");
        fault("falls of one, that was told already", 5, 15, "person falls 5 falls 5;");
        fault(".. if 0 was told", 5, 15, "person falls 0 falls 0;");
        fault(".. whatever is behind it", 5, 15, "person falls 0 falls");
        good("has and worth of one SORT", "person has 0 1 worth 0 1;");
        good("the same of another one", "person has 0 1 worth 0 1 falls 1;person has 0 1 worth 0 1 falls 1;");
        good("parts in any order", "sorts 2;person falls 1 pair 0 1 2 worth 1 3 has 0 4 pair 1 0 5 worth 0 6 has 1 7;");
        fault("has has two NUMBERS", 1, 12, "person has 0;");
        fault("has has two NUMBERS", 1, 15, "person has 0 1 1;");
        fault("worth has two NUMBERS", 1, 14, "person worth 0;");
        fault("worth has two NUMBERS", 1, 17, "person worth 0 1 1;");
        fault("falls has one NUMBER", 1, 15, "person falls 0 1;");
        fault("no LINE within a LINE", 1, 7, "person person;");
        fault("no LINE within a LINE", 1, 7, "person law 1;");
        fault("no LINE within a LINE", 1, 15, "sorts 2;person tie 0 0 1;");
        fault("no LINE within a LINE", 1, 14, "person;person meet 0 1;");
        fault("what is of a law", 1, 7, "person burns;");
        fault("what is of a law", 1, 7, "person spoon 0;");
    }

    private static void pairs() {
        good("PAIRS: a WORTH (0 to 99): 0", "sorts 2;person pair 0 1 0;");
        good("PAIRS: a WORTH (0 to 99): 99", "sorts 2;person pair 0 1 99;");
        fault("PAIRS: a WORTH (0 to 99): 100", 2, 24, "sorts 2;person pair 0 1 100;");
        good("PAIRS: the last SORT", "sorts 8;person pair 7 0 1 pair 0 7 1;");
        fault("PAIRS: the first SORT that there isn't", 3, 20, "sorts 7;person pair 7 0 1;");
        fault("PAIRS: the first SORT that there isn't", 3, 22, "sorts 7;person pair 0 7 1;");
        fault("PAIRS: two unlike SORTS, the second one is the first", 4, 22, "sorts 2;person pair 0 0 1;");
        fault("PAIRS: two unlike SORTS, the second one is the first", 4, 22, "sorts 8;person pair 7 7 1;");
        fault("PAIRS: .. of a town of one SORT", 4, 14, "person pair 0 0 1;");
        good("PAIRS: at most 6 of one", "sorts 2;person" + " pair 0 1 1".repeat(6) + ";");
        fault("PAIRS: the 7th pair of one", 2, 81, "sorts 2;person" + " pair 0 1 1".repeat(7) + ";");
        fault("PAIRS: .. whatever is behind it", 2, 81, "sorts 2;person" + " pair 0 1 1".repeat(6) + " pair");
        good("PAIRS: 6 of each", "sorts 2;" + ("person" + " pair 0 1 1".repeat(6) + ";").repeat(6));
        fault("PAIRS: the 7th of the second one", 2, 154, "sorts 2;" + ("person" + " pair 0 1 1".repeat(6) + ";")
                + "person" + " pair 0 1 1".repeat(7) + ";");
        fault("PAIRS: three NUMBERS", 1, 23, "sorts 2;person pair 0 1;");
        fault("PAIRS: three NUMBERS", 1, 26, "sorts 2;person pair 0 1 1 1;");
        Check.edge("3 PAIRS: all six count", () -> {
            StringBuilder text = new StringBuilder("sorts 7;person has 6 1 has 0 1 has 1 1 has 2 1 has 3 1 has 4 1 has 5 1");
            for (int k = 0; k < 6; k++) {
                text.append(" pair 6 ").append(k).append(' ').append(1 << k);
            }
            Check.due("worth", Check.town(text.append(';').toString()).worth(0), 6300);
        });
    }

    private static void laws() {
        for (int g = 1; g <= 3; g++) {
            int gives = g;
            Check.edge("3 law (1 to 3): " + g, () -> Check.due("gives", Check.town("law " + gives + ";").count(2), gives));
        }
        fault("law (1 to 3): 0", 2, 4, "law 0;");
        fault("law (1 to 3): 4", 2, 4, "law 4;");
        Check.edge("3 law: 2 at first, no SPOON, it does not burn", () -> {
            TwoForOne x = Check.town("person;");
            Check.due("gives", x.count(2), 2);
            Check.due("spoon", x.count(3), -1);
            Check.due("burns", x.count(4), 0);
        });
        Check.edge("3 law: the SPOON is the first SORT", () -> Check.due("spoon", Check.town("law 1 spoon 0;").count(3), 0));
        Check.edge("3 law: the SPOON is the last SORT", () -> Check.due("spoon", Check.town("sorts 8;law 1 spoon 7;").count(3), 7));
        fault("law: the SPOON is a SORT that there isn't", 3, 12, "law 1 spoon 1;");
        fault("law: the SPOON is a SORT that there isn't", 3, 20, "sorts 8;law 1 spoon 8;");
        Check.edge("3 law: neither spoon nor burns", () -> {
            TwoForOne x = Check.town("law 3;");
            Check.due("spoon", x.count(3), -1);
            Check.due("burns", x.count(4), 0);
        });
        Check.edge("3 law: burns alone", () -> {
            TwoForOne x = Check.town("law 3 burns;");
            Check.due("spoon", x.count(3), -1);
            Check.due("burns", x.count(4), 1);
        });
        Check.edge("3 law: spoon alone", () -> {
            TwoForOne x = Check.town("law 3 spoon 0;");
            Check.due("spoon", x.count(3), 0);
            Check.due("burns", x.count(4), 0);
        });
        Check.edge("3 law: both", () -> {
            TwoForOne x = Check.town("law 3 spoon 0 burns;");
            Check.due("spoon", x.count(3), 0);
            Check.due("burns", x.count(4), 1);
        });
        fault("law: spoon is ahead of burns", 1, 12, "law 1 burns spoon 0;");
        fault("law: spoon once", 1, 14, "law 1 spoon 0 spoon 0;");
        fault("law: burns once", 1, 12, "law 1 burns burns;");
        fault("law: spoon has a SORT", 1, 11, "law 1 spoon;");
        fault("law: spoon has a SORT", 1, 12, "law 1 spoon burns;");
        fault("law: the NUMBER is first", 1, 4, "law burns;");
        fault("law: the NUMBER is first", 1, 4, "law spoon 0;");
        fault("a second law", 5, 6, "law 1;law 1;");
        fault("a second law, others between", 5, 13, "law 1;person;law 2;");
        fault("a second law, whatever is behind it", 5, 6, "law 1;law");
        fault("a law within a LINE can't stand there", 1, 6, "law 1 law 1;");
    }

    private static void ties() {
        for (int k = 0; k <= 4; k++) {
            int many = k;
            Check.edge("3 TIES (at most 4): " + k, () -> {
                TwoForOne x = Check.town("sorts 2;person;" + "tie 0 0 1;".repeat(many));
                Check.due("ties", x.count(5), many);
                Check.due("the last", Check.outcome(() -> x.tie(0, many - 1) ? 1 : 0), many > 0 ? "0" : "NoSuchElementException");
                Check.none("one more", () -> x.tie(0, many) ? 1 : 0);
            });
        }
        fault("the first TOKEN of the 5th TIE", 2, 48, "sorts 2;" + "tie 0 0 1;".repeat(5));
        fault(".. whatever is behind it", 2, 48, "sorts 2;" + "tie 0 0 1;".repeat(4) + "tie");
        good("TIES of two SORTS, perhaps one, twice", "sorts 3;tie 0 1 2;tie 0 0 2;tie 2 1 0;");
        fault("TIES: a third SORT that is the first", 4, 16, "sorts 2;tie 0 1 0;");
        fault("TIES: a third SORT that is the second", 4, 16, "sorts 2;tie 0 1 1;");
        fault("TIES: a third SORT that is both", 4, 16, "sorts 2;tie 1 1 1;");
        fault("TIES: .. of a town of one SORT", 4, 8, "tie 0 0 0;");
        good("TIES: the last SORT", "sorts 8;tie 7 7 6;tie 6 7 5;tie 5 6 7;");
        fault("TIES: the first SORT that there isn't", 3, 12, "sorts 7;tie 7 0 1;");
        fault("TIES: the first SORT that there isn't", 3, 14, "sorts 7;tie 0 7 1;");
        fault("TIES: the first SORT that there isn't", 3, 16, "sorts 7;tie 0 1 7;");
        fault("TIES: three SORTS", 1, 15, "sorts 2;tie 0 0;");
        fault("TIES: three SORTS", 1, 18, "sorts 2;tie 0 0 1 1;");
    }

    private static void meetings() {
        for (int k = 0; k <= 8; k++) {
            int many = k;
            Check.edge("3 MEETINGS (at most 8): " + k, () -> {
                TwoForOne x = Check.town("person;person;" + "meet 1 0;".repeat(many));
                Check.due("meetings", x.count(6), many);
                Check.due("the last", Check.outcome(() -> x.meeting(many - 1, 0)), many > 0 ? "1" : "NoSuchElementException");
                Check.none("one more", () -> x.meeting(many, 0));
            });
        }
        fault("the first TOKEN of the 9th MEETING", 2, 86, "person;person;" + "meet 0 1;".repeat(9));
        fault(".. whatever is behind it", 2, 86, "person;person;" + "meet 0 1;".repeat(8) + "meet");
        fault("MEETINGS of two unlike PEOPLE", 4, 14, "person;meet 0 0;");
        fault("MEETINGS of two unlike PEOPLE", 4, 49, "person;".repeat(6) + "meet 5 5;");
        good("MEETINGS of the first and the last one", "person;".repeat(6) + "meet 0 5;meet 5 0;");
        fault("a PERSON that there isn't", 3, 47, "person;".repeat(6) + "meet 6 0;");
        fault("a PERSON that there isn't", 3, 49, "person;".repeat(6) + "meet 0 6;");
        fault("a PERSON that isn't told ahead: none is", 3, 5, "meet 0 1;");
        fault("a PERSON that isn't told ahead: told behind", 3, 5, "meet 0 1;person;person;");
        fault("a PERSON that isn't told ahead: the second is told behind", 3, 14, "person;meet 0 1;person;");
        fault("a PERSON that isn't told ahead: the first is told behind", 3, 12, "person;meet 1 0;person;");
        good("PEOPLE told ahead, others behind", "person;person;meet 0 1;person;meet 1 2;");
        fault("MEETINGS: two PEOPLE", 1, 20, "person;person;meet 0;");
        fault("MEETINGS: two PEOPLE", 1, 23, "person;person;meet 0 1 0;");
    }

    /** Each beginning of a long text that is no town ends too soon, at its length, where it ends with a token. */
    private static void tooShort() {
        String text = "sorts 3 ; person has 0 2 worth 1 10 pair 0 2 5 falls 3 ; person ; law 2 spoon 1 burns ; tie 0 1 2 ; meet 0 1 ; ";
        for (int end = 1; end < text.length(); end++) {
            if (text.charAt(end) != ' ' && text.charAt(end) != ';' || text.charAt(end - 1) == ' ') {
                continue;
            }
            String part = text.substring(0, end);
            if (part.endsWith(";")) {
                good("it does not end too soon", part);
            } else {
                fault("it ends too soon", 1, end, part);
                fault("it ends too soon, at the text's length", 1, end + 2, part + " \n");
            }
        }
    }

    private static void firstAndLeast() {
        fault("the first along the text", 3, 11, "person has 1 21;foo;");
        fault("the first along the text", 2, 13, "person has 0 21 has 0 1;");
        fault("the first along the text", 5, 6, "law 1;law 4;");
        fault("the first along the text", 4, 22, "sorts 2;person pair 1 1 100;");
        fault("the first along the text", 3, 12, "sorts 2;tie 2 0 0;");
        fault("the first along the text", 2, 13, "person falls 101");
        fault("the first along the text, ahead of its end", 5, 19, "person has 0 1 has 0");
        fault("the first along the text, ahead of a sign that is none", 3, 11, "person has 1 !");
        fault("at a TOKEN's first byte", 2, 14, "person  falls 101;");
        fault("at a TOKEN's first byte", 1, 7, "person;abcdef;");
        fault("of one TOKEN the least: 1, not 2: a NUMBER of 5 digits", 1, 7, "person 12345;");
        fault("of one TOKEN the least: 1, not 2: a NUMBER of 5 digits", 1, 0, "12345;");
        fault("of one TOKEN the least: 1, not 2: a 7th person", 1, 42, "person;".repeat(5) + "person person;");
        fault("of one TOKEN the least: 1, not 2: a 5th tie", 1, 55, "sorts 2;" + "tie 0 0 1;".repeat(4) + "person tie 0 0 1;");
        fault("of one TOKEN the least: 1, not 2: a 7th pair", 1, 87, "sorts 2;person" + " pair 0 1 1".repeat(6) + " has 0 pair 0 1 1;");
        fault("of one TOKEN the least: 1, not 5: falls", 1, 19, "person falls 1 has falls 1;");
        fault("of one TOKEN the least: 1, not 5: law", 1, 13, "law 1;person law 1;");
        fault("of one TOKEN the least: 1, not 5: sorts", 1, 7, "person sorts 1;");
        fault("of one TOKEN the least: 2, not 3", 2, 11, "person has 10000 1;");
        fault("of one TOKEN the least: 3, not 2", 3, 11, "person has 9999 1;");
        fault("of one TOKEN the least: 2, not 3: a PERSON", 2, 12, "person;meet 10000 0;");
        fault("of one TOKEN the least: 3: a PERSON", 3, 12, "person;meet 9999 0;");
        fault("of one TOKEN the least: 2, not 4", 2, 22, "sorts 2;person pair 0 00000 1;");
        fault("of one TOKEN the least: 2, not 4", 2, 14, "person;meet 0 00000;");
        fault("of one TOKEN the least: 2, not 4", 2, 16, "sorts 2;tie 0 1 00000;");
        fault("of one TOKEN the least: 2, not 5", 2, 19, "person has 0 1 has 00000 1;");
        fault("of one TOKEN the least: 2, not 5", 2, 23, "person worth 0 1 worth 00000 1;");
    }

    private static void anew() {
        Check.edge("3 all anew: PEOPLE, SORTS, TIES, MEETINGS, the law", () -> {
            TwoForOne x = Check.town("sorts 8;law 3 spoon 7 burns;" + "person has 0 9 worth 0 9 pair 0 1 9 falls 9;".repeat(6)
                    + "tie 0 0 1;".repeat(4) + "meet 0 1;".repeat(8));
            Check.due("town", Check.tell(x, "sorts 2;person;person;"), 0);
            int[] counts = {2, 2, 2, -1, 0, 0, 0, 0, 0};
            for (int what = 0; what < counts.length; what++) {
                Check.due("count " + what, x.count(what), counts[what]);
            }
        });
        Check.edge("3 all anew: what each HAS, WORTH, FALLS, PAIRS", () -> {
            TwoForOne x = Check.town("sorts 2;" + "person has 0 9 has 1 9 worth 0 9 pair 0 1 9 falls 50;".repeat(2));
            Check.tell(x, "sorts 2;person has 0 4 has 1 4 worth 1 1;person;");
            Check.due("likes", x.likes(0, 0) + x.likes(1, 0) + x.likes(1, 1), 0);
            Check.due("bags", Check.bags(x), "4 4 / 0 0");
            Check.due("worth", x.worth(0), 400);
            Check.due("freely", x.freely(), 400);
        });
        Check.edge("3 all anew: nothing of a text with a FAULT", () -> {
            TwoForOne x = new TwoForOne();
            Check.tell(x, "sorts 2;law 3 spoon 1 burns;person has 0 9 worth 1 9 pair 0 1 9 falls 50;person;meet 0 1;tie 0 0 1;foo");
            Check.tell(x, "sorts 2;person has 1 4;person;");
            Check.due("bags", Check.bags(x), "0 4 / 0 0");
            Check.due("worth", x.worth(0), 0);
            int[] counts = {2, 2, 2, -1, 0, 0, 0};
            for (int what = 0; what < counts.length; what++) {
                Check.due("count " + what, x.count(what), counts[what]);
            }
        });
        Check.edge("3 all anew: told already counts for one text alone", () -> {
            TwoForOne x = new TwoForOne();
            for (int i = 0; i < 3; i++) {
                Check.due("town", Check.tell(x, "sorts 2;law 1;person has 0 1 worth 0 1 falls 1;"), 0);
            }
            Check.due("a fault", Check.tell(x, "sorts 2;law 1;person has 0 1 worth 0 1 falls 1;foo"), 1);
            Check.due("town", Check.tell(x, "sorts 2;law 1;person has 0 1 worth 0 1 falls 1;"), 0);
        });
    }

    private static void gone() {
        String other = "sorts 3;person has 0 4;person;meet 0 1;";
        Check.edge("3 what is kept is gone: the way", () -> {
            TwoForOne x = Busy.town();
            x.step(0, 0);
            Check.tell(x, other);
            Check.none("step", () -> x.step(0, 0));
        });
        Check.edge("3 what is kept is gone: the bag", () -> {
            TwoForOne x = Busy.town();
            x.bag(0);
            Check.tell(x, other);
            Check.none("bag", () -> x.bag(0));
        });
        Check.edge("3 what is kept is gone: the order", () -> {
            TwoForOne x = Busy.town();
            x.ordered(0);
            Check.tell(x, other);
            Check.none("ordered", () -> x.ordered(0));
        });
        Check.edge("3 what is kept is gone: the share", () -> {
            TwoForOne x = Busy.town();
            x.shared(0, 0);
            Check.tell(x, other);
            Check.none("shared", () -> x.shared(0, 0));
        });
        Check.edge("3 the image is gone", () -> {
            TwoForOne x = Busy.town();
            Check.tell(x, other);
            Check.due("restore", x.restore(), false);
            Check.due("bags", Check.bags(x), "4 0 0 / 0 0 0");
        });
        Check.edge("3 all that is gone, by the same text too", () -> {
            TwoForOne x = Busy.town();
            Check.tell(x, Busy.TEXT);
            Check.none("step", () -> x.step(0, 0));
            Check.none("bag", () -> x.bag(0));
            Check.none("ordered", () -> x.ordered(0));
            Check.none("shared", () -> x.shared(0, 0));
            Check.due("restore", x.restore(), false);
        });
        Check.edge("3 all that is gone, by an empty text too", () -> {
            TwoForOne x = Busy.town();
            Check.due("town", x.town(0), 0);
            Check.none("step", () -> x.step(0, 0));
            Check.none("ordered", () -> x.ordered(0));
            Check.none("bag", () -> x.bag(0));
            Check.due("restore", x.restore(), false);
        });
        for (int k = 0; k < 3; k++) {
            int what = 9 + k;
            Check.edge("3 STATUS stays: " + k, () -> {
                TwoForOne x = Busy.town();
                Check.tell(x, other);
                Check.due("status", x.count(what), 1);
            });
        }
    }

    private static void stays() {
        String[] wrong = {"foo", "sorts 9;", "person has 1 1;", "person;meet 0 0;", "law 1;law 1;", "person",
            "sorts 8;law 3 spoon 7 burns;person has 7 20 worth 7 99 pair 0 7 99 falls 100;person;tie 7 7 0;meet 0 1;foo"};
        for (int k = 0; k < wrong.length; k++) {
            String text = wrong[k];
            Check.edge("3 a FAULT: all else stays, but STATUS: " + shown(text), () -> {
                TwoForOne x = Busy.town();
                String before = Check.all(x);
                Check.due("before", before.startsWith("counts 2 3 2 -1 0 1 1 0 5 1 1 1 fault 7 "), true);
                Check.due("a fault", Check.tell(x, text) > 0, true);
                String due = "counts 2 3 2 -1 0 1 1 0 5 2 1 1 fault " + x.fault() + " ";
                Check.due("all", Check.all(x), before.replace("counts 2 3 2 -1 0 1 1 0 5 1 1 1 fault 7 ", due));
                Busy.imageIsThere(x);
                Check.due("look", x.look(0, 1, 10, 1, 2), 800);
            });
        }
        Check.edge("3 STATUS 0: each FAULT once", () -> {
            TwoForOne x = new TwoForOne();
            for (int k = 1; k <= 9; k++) {
                Check.tell(x, wrong[k % wrong.length]);
                Check.due("refused", x.count(9), k);
                Check.tell(x, "person;");
                Check.due("refused", x.count(9), k);
            }
            Check.due("trades", x.count(10), 0);
            Check.due("ties", x.count(11), 0);
        });
    }
}
