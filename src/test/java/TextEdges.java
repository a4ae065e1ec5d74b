/** Promises 2 and 3, and Term 1 of texts: each sentence that names a boundary, at it and one beyond it. */
public final class TextEdges extends Twins {
    private static final String TWO = "relation 5;relation 5;";
    private static final String EIGHT = "relation 5;".repeat(8);

    private TextEdges() {
    }

    public static void main(String[] args) {
        typeUpToTheFirstZero();
        typeHighestFirst();
        typeTellsHowMany();
        typeNoMoreThan500();
        typeRefusedBringsNothing();
        blanks();
        bytesThatBeginAToken();
        tokensAsLongAsTheyGo();
        numbersOfOneToSevenDigits();
        signsOfOneByte();
        anyNumberOfSentences();
        sentencesCutShort();
        setsOfAnEdge();
        laterLimitStrikes();
        faultPlaces();
        formGoesAhead();
        firstByPlace();
        rowsThatCanBe();
        byThatCanBe();
        limitThatCanBe();
        relationToldTillThen();
        relationInItsEdgeAlready();
        ninthRelation();
        seventeenthEdge();
        queryEmptiesTheText();
        queryIsAsAtFirst();
        queryOf500Bytes();
        queryRefused();
        end();
    }

    // ---- promise 2

    private static void typeUpToTheFirstZero() {
        sentence(2, "up to the first one that is 0");
        for (int many = 0; many <= 8; many++) {
            long eight = 0;
            for (int i = 0; i < 8; i++) {
                eight = eight << 8 | (i == many ? 0 : 'a');
            }
            due("type of " + many + " bytes ahead of a 0", new JoinOrders().type(eight), many);
        }
        due("type(0)", new JoinOrders().type(0), 0);
        due("type(1), the lowest byte alone", new JoinOrders().type(1), 0);
        due("type(255)", new JoinOrders().type(255), 0);
        due("type(-1)", new JoinOrders().type(-1), 8);
        due("type(MIN), one byte of 128", new JoinOrders().type(Long.MIN_VALUE), 1);
        due("type(MAX)", new JoinOrders().type(Long.MAX_VALUE), 8);
        due("type of a 1 and seven 0", new JoinOrders().type(1L << 56), 1);
        due("type of eight 1", new JoinOrders().type(0x0101010101010101L), 8);
    }

    private static void typeHighestFirst() {
        sentence(2, "Bytes come behind THE TEXT, the highest first");
        JoinOrders x = new JoinOrders();
        x.type(0x72656c6174696f6eL);
        x.type(0x2031323b00000000L);
        due("query() of relation 12;", x.query(), 1);
        due("size(1)", x.size(1, false), 12);
        for (char sign : "relation 34;".toCharArray()) {
            x.type((long) sign << 56);
        }
        due("query() of bytes that came one by one", x.query(), 1);
        due("size(1)", x.size(1, false), 34);
    }

    private static void typeTellsHowMany() {
        sentence(2, "how many THE TEXT has");
        JoinOrders x = new JoinOrders();
        for (int i = 1; i <= 500; i++) {
            due("type of one byte more", x.type(' ' * (1L << 56)), i);
            if (i == 250 || i == 499 || i == 500) {
                due("count(10)", x.count(10), i);
            }
        }
    }

    private static JoinOrders withBytes(int many) {
        JoinOrders x = new JoinOrders();
        typed(x, " ".repeat(many));
        return x;
    }

    private static void typeNoMoreThan500() {
        sentence(2, "NONE, if it would have more than 500");
        for (int many = 0; many <= 8; many++) {
            long eight = eightOf("aaaaaaaa".substring(0, many), 0);
            due("type of " + many + " up to 499", withBytes(499 - many).type(eight), 499);
            due("type of " + many + " up to 500", withBytes(500 - many).type(eight), 500);
            if (many > 0) {
                due("type of " + many + " up to 501", withBytes(501 - many).type(eight), NONE);
                due("type of " + many + " at 500", withBytes(500).type(eight), NONE);
            }
        }
        due("type(0) at 500", withBytes(500).type(0), 500);
        due("type of a 0 ahead of seven at 500", withBytes(500).type(0x0061616161616161L), 500);
    }

    private static void typeRefusedBringsNothing() {
        sentence(2, "and nothing comes");
        JoinOrders x = new JoinOrders();
        typed(x, "relation 5" + " ".repeat(489));
        due("type of ;x at 499", x.type(eightOf(";x", 0)), NONE);
        due("count(10)", x.count(10), 499);
        due("type of eight at 499", x.type(eightOf("xxxxxxxx", 0)), NONE);
        due("type of ; at 499", x.type(eightOf(";", 0)), 500);
        due("type of ; at 500", x.type(eightOf(";", 0)), NONE);
        due("query() of the 500", x.query(), 1);
        refused("type of 1 at 500", Twins::full, twin -> twin.type(eightOf("x", 0)));
        refused("type of 8 at 500", Twins::full, twin -> twin.type(-1));
    }

    // ---- tokens

    private static boolean isBlank(int sign) {
        return sign == 32 || sign == 10;
    }

    private static void blanks() {
        sentence(3, "blanks (32, 10) between where one likes");
        sound(" \nrelation \n5 \n; \n", 1);
        sound("\n\n \nlimit\n5\n;\n", 0);
        JoinOrders x = of(" relation 5 ; relation 6 ; relation 7 ; edge 0\n1 - \n 2 by 3 ; ");
        due("edge(0, 0)", x.edge(0, 0), 3);
        due("edge(0, 1)", x.edge(0, 1), 4);
        for (int sign = 1; sign < 256; sign++) {
            String text = (char) sign + "relation 5;";
            if (isBlank(sign)) {
                sound(text, 1);
            } else {
                faulty(text, 1, 0);
            }
        }
        faulty("rel ation 5;", 1, 0);
        faulty("relation 5 5;", 1, 11);
    }

    /** Each byte behind the word relation, and each behind its number. */
    private static void bytesThatBeginAToken() {
        sentence(3, "1 the first token that can not stand there, or a byte that begins none");
        for (int sign = 1; sign < 256; sign++) {
            String behindWord = "relation" + (char) sign + "5;";
            String behindNumber = "relation 5" + (char) sign + ";";
            boolean digit = sign >= '0' && sign <= '9';
            if (isBlank(sign) || digit) {
                sound(behindWord, 1);
                sound(behindNumber, 1);
            } else {
                // A letter makes another word of it.
                faulty(behindWord, 1, sign >= 'a' && sign <= 'z' ? 0 : 8);
                // Behind the ; that is due another one can not stand.
                faulty(behindNumber, 1, sign == ';' ? 11 : 10);
            }
        }
    }

    private static void tokensAsLongAsTheyGo() {
        sentence(3, "TOKENS, each as long as it goes");
        sound("relation5;limit6;", 1);
        sound(TWO + "edge0-1by2;", 2);
        faulty("relationrelation 5;", 1, 0);
        faulty("relationlimit 5;", 1, 0);
        faulty("relations 5;", 1, 0);
        faulty("relatio 5;", 1, 0);
        faulty("arelation 5;", 1, 0);
        faulty("selation 5;", 1, 0);
        faulty("relatiom 5;", 1, 0);
        faulty("timit 5;", 1, 0);
        faulty(TWO + "fdge 0-1 by 2;", 1, 22);
        faulty(TWO + "edge 0-1 cy 2;", 1, 31);
        faulty(TWO + "edge 0-1 bz 2;", 1, 31);
        faulty("edg 0-1 by 2;", 1, 0);
        faulty("edges 0-1 by 2;", 1, 0);
        faulty("limi 5;", 1, 0);
        faulty("limits 5;", 1, 0);
        faulty(TWO + "edge 0-1 b 2;", 1, 31);
        faulty(TWO + "edge 0-1 byy 2;", 1, 31);
        faulty(TWO + "edge 0-1 b y 2;", 1, 31);
        due("size(1) of relation 12;", of("relation 12;").size(1, false), 12);
        faulty("relation 1 2;", 1, 11);
        faulty("relation 5relation 5;", 1, 10);
    }

    private static void numbersOfOneToSevenDigits() {
        sentence(3, "NUMBERS, 1 to 7 digits (a longer row of digits is none)");
        due("size(1) of 7 digits", of("relation 1000000;").size(1, false), 1000000);
        due("size(1) of leading 0", of("relation 0000012;").size(1, false), 12);
        due("size(1) of all digits", of("relation 0987654;relation 321;").size(3, false), 987654L * 321);
        faulty("relation ;", 1, 9);
        faulty("limit ;", 1, 6);
        faulty(TWO + "edge 0-1 by ;", 1, 34);
        faulty("relation 9999999;", 2, 9);
        faulty("relation 10000000;", 1, 9);
        faulty("relation 00000012;", 1, 9);
        faulty("relation 4294967297;", 1, 9);
        faulty("relation 18446744073709551617;", 1, 9);
        faulty("relation " + "0".repeat(480) + "1;", 1, 9);
        String three = "relation 5;".repeat(3);
        dueOfDigits("relation ", "1", ";", 1);
        dueOfDigits(three + "edge ", "0", " - 1 by 2;", 3);
        dueOfDigits(three + "edge 1 ", "0", " - 2 by 2;", 3);
        dueOfDigits(three + "edge 1 - ", "0", " by 2;", 3);
        dueOfDigits(three + "edge 1 - 2 ", "0", " by 2;", 3);
        dueOfDigits(three + "edge 1 - 2 by ", "1", ";", 3);
        dueOfDigits("limit ", "0", ";", 0);
    }

    /** Seven digits are a number, eight are none, wherever a number stands. */
    private static void dueOfDigits(String ahead, String digit, String behind, int relations) {
        sound(ahead + digit + behind, relations);
        sound(ahead + "000000" + digit + behind, relations);
        faulty(ahead + "0000000" + digit + behind, 1, ahead.length());
    }

    private static void signsOfOneByte() {
        sentence(3, "the signs ; - ( ) one byte each");
        faulty("relation 5;;", 1, 11);
        faulty(TWO + "edge 0--1 by 2;", 1, 29);
        faulty("(relation 5;", 1, 0);
        faulty("relation (5);", 1, 9);
        faulty("relation 5);", 1, 10);
        faulty("relation -5;", 1, 9);
        faulty("- relation 5;", 1, 0);
    }

    // ---- the form of a query

    private static void anyNumberOfSentences() {
        sentence(3, "any number of");
        sound("", 0);
        sound(" ", 0);
        sound("limit 1;".repeat(62), 0);
        sound("relation 1;", 1);
        faulty("limit 1;".repeat(62) + ";", 1, 496);
    }

    /** Of each beginning of a query: it ends with a ;, in the midst of a word, or more must come. */
    private static void sentencesCutShort() {
        sentence(3, "or the end, if more must come (the end's: how many bytes there are)");
        String whole = "relation 15;relation 6;\nrelation 7;edge 0 2 - 1 by 3;limit 41; edge 1 - 0 2 by 9;";
        for (int length = 0; length <= whole.length(); length++) {
            String text = whole.substring(0, length);
            String word = text.replaceAll(".*[^a-z]", "").replace("\n", "");
            int relations = (text.length() - text.replace("relation ", "").length()) / 9;
            if (text.trim().isEmpty() || text.trim().endsWith(";")) {
                sound(text, relations);
            } else if (word.isEmpty() || word.matches("relation|edge|limit|by")) {
                faulty(text, 1, length);
            } else {
                faulty(text, 1, length - word.length());
            }
        }
        faulty("relation", 1, 8);
        faulty("relation 5  \n", 1, 13);
    }

    private static void setsOfAnEdge() {
        sentence(3, "edge N {N} - N {N} by N");
        JoinOrders x = of(EIGHT + "edge 7 - 0 by 1;edge 3 2 1 0 - 4 5 6 7 by 1;edge 6 - 7 5 4 3 2 1 0 by 1;edge 0 1 2 3 4 5 7-6 by 1;");
        int[][] due = {{128, 1}, {15, 240}, {64, 191}, {191, 64}};
        for (int e = 0; e < 4; e++) {
            due("edge(" + e + ", 0)", x.edge(e, 0), due[e][0]);
            due("edge(" + e + ", 1)", x.edge(e, 1), due[e][1]);
        }
        faulty(TWO + "edge - 1 by 2;", 1, 27);
        faulty(TWO + "edge 0 - by 2;", 1, 31);
        faulty(TWO + "edge 0 by 2;", 1, 29);
        faulty(TWO + "edge 0 1;", 1, 30);
        faulty(TWO + "edge 0 - 1;", 1, 32);
        faulty(TWO + "edge 0 - 1 by;", 1, 35);
        faulty(TWO + "edge 0 - 1 - 1 by 2;", 1, 33);
        faulty(TWO + "edge 0 - 1 by 2 3;", 1, 38);
        faulty(TWO + "edge 0 - 1 by 2 by 3;", 1, 38);
    }

    private static void laterLimitStrikes() {
        sentence(3, "limit: the later one strikes");
        due("count(2) of none", of("relation 5;").count(2), 1000);
        due("count(2) of one", of("limit 7;").count(2), 7);
        due("count(2) of two", of("limit 7;limit 9;").count(2), 9);
        JoinOrders x = of("limit 7;");
        due("query() of another one, with none", queried(x, "relation 5;"), 1);
        due("count(2) of none then", x.count(2), 1000);
        due("query() with one and a fault", queried(x, "limit 8;x"), NONE);
        due("count(2) behind a fault", x.count(2), 1000);
        due("query() of nothing", x.query(), 0);
        due("count(2) of nothing", x.count(2), 1000);
        due("count(2) of three", of("limit 9;relation 1;limit 5000;limit 0;").count(2), 0);
        faulty("limit 5001;limit 9;", 2, 6);
        faulty("limit 9;limit 5001;", 2, 14);
    }

    // ---- faults

    private static void faultPlaces() {
        sentence(5, "the place (the byte from 0 on)");
        faulty("x", 1, 0);
        faulty(" x", 1, 1);
        faulty("\n\n\nx", 1, 3);
        faulty(" ".repeat(499) + "x", 1, 499);
        faulty("x" + " ".repeat(499), 1, 0);
        faulty(" ".repeat(492) + "relation", 1, 500);
        faulty(" ".repeat(490) + "relation 0", 1, 500);
        faulty(" ".repeat(489) + "relation 0;", 2, 498);
        faulty(" ".repeat(488) + "limit 1" + "\n0001;", 1, 496);
    }

    private static void formGoesAhead() {
        sentence(3, "1 ..; if there is none, the first by place: 2, 3, 4");
        faulty("relation 0;x", 1, 11);
        faulty("relation 0", 1, 10);
        faulty("relation 0;relation 00000001;", 1, 20);
        faulty(TWO + "edge 0 - 0 by 2", 1, 37);
        faulty(EIGHT + "relation 5", 1, 98);
        faulty(EIGHT + "relation 5;!", 1, 99);
        faulty(TWO + "edge0-1by2;".repeat(17) + "by", 1, 22 + 17 * 11);
        faulty("x relation 0;", 1, 0);
    }

    private static void firstByPlace() {
        sentence(3, "the first by place");
        faulty("relation 0;limit 5001;", 2, 9);
        faulty("limit 5001;relation 0;", 2, 6);
        faulty(TWO + "edge 0 2 0 - 1 by 2;", 2, 29);
        faulty(TWO + "edge 0 0 2 - 1 by 2;", 3, 29);
        faulty(TWO + "edge 0 0 - 1 by 0;", 3, 29);
        faulty(TWO + "edge 0 - 1 by 0;edge 0 - 0 by 2;", 2, 36);
        faulty("relation 0;" + EIGHT, 2, 9);
        faulty(EIGHT + "edge 0-0 by 2;relation 5;", 3, 95);
        faulty(EIGHT + "relation 5;edge 0-0 by 2;", 4, 88);
        faulty(EIGHT + "relation 0;", 4, 88);
        faulty(EIGHT + "edge 0-8 by 2;relation 5;", 2, 95);
        faulty(EIGHT + "relation 5;edge 0-8 by 2;", 4, 88);
        faulty(TWO + "edge0-1by2;".repeat(16) + "edge0-0by0;limit 9999;", 4, 22 + 16 * 11);
        faulty(TWO + "edge0-1by2;".repeat(16) + "limit 9999;edge0-0by0;", 2, 22 + 16 * 11 + 6);
        // Of an untold relation the first telling is at fault, ahead of its second one in the edge.
        faulty(TWO + "edge 7 7 - 1 by 2;", 2, 27);
    }

    private static void rowsThatCanBe() {
        sentence(3, "2 a NUMBER that can not be: ROWS, 1 to 1000000");
        faulty("relation 0;", 2, 9);
        faulty("relation 0000000;", 2, 9);
        due("size(1) of 1", of("relation 1;").size(1, false), 1);
        due("size(1) of 2", of("relation 2;").size(1, false), 2);
        due("size(1) of 999999", of("relation 999999;").size(1, false), 999999);
        due("size(1) of 1000000", of("relation 1000000;").size(1, false), 1000000);
        faulty("relation 1000001;", 2, 9);
        faulty("relation 9999999;", 2, 9);
    }

    private static void byThatCanBe() {
        sentence(3, "2 a NUMBER that can not be: BY, 1 to 100000");
        faulty(TWO + "edge 0-1 by 0;", 2, 34);
        due("edge(0, 2) of 1", of(TWO + "edge 0-1 by 1;").edge(0, 2), 1);
        due("edge(0, 2) of 99999", of(TWO + "edge 0-1 by 99999;").edge(0, 2), 99999);
        due("edge(0, 2) of 100000", of(TWO + "edge 0-1 by 100000;").edge(0, 2), 100000);
        faulty(TWO + "edge 0-1 by 100001;", 2, 34);
        faulty(TWO + "edge 0-1 by 9999999;", 2, 34);
    }

    private static void limitThatCanBe() {
        sentence(3, "2 a NUMBER that can not be: LIMIT, 0 to 5000 (1000 at first)");
        due("count(2) of 0", of("limit 0;").count(2), 0);
        due("count(2) of 1", of("limit 1;").count(2), 1);
        due("count(2) of 4999", of("limit 4999;").count(2), 4999);
        due("count(2) of 5000", of("limit 5000;").count(2), 5000);
        faulty("limit 5001;", 2, 6);
        faulty("limit 9999999;", 2, 6);
        due("count(2) of none", of("").count(2), 1000);
    }

    private static void relationToldTillThen() {
        sentence(3, "2 of an edge a RELATION that was not told till then");
        faulty("edge 0 - 1 by 2;", 2, 5);
        for (int many = 2; many <= 8; many++) {
            String ahead = "relation 5;".repeat(many);
            int last = many - 1;
            sound(ahead + "edge 0 - " + last + " by 2;", many);
            sound(ahead + "edge " + last + " - 0 by 2;", many);
            faulty(ahead + "edge 0 - " + many + " by 2;", 2, 11 * many + 9);
            faulty(ahead + "edge " + many + " - 0 by 2;", 2, 11 * many + 5);
        }
        faulty("relation 5;edge 0 - 1 by 2;relation 5;", 2, 20);
        faulty(TWO + "edge 0 - 1 2 by 2;relation 5;", 2, 33);
        faulty(TWO + "edge 0 2 - 1 by 2;relation 5;", 2, 29);
        // Bits of numbers from 32 on would be those of lesser ones.
        faulty(TWO + "edge 32 - 1 by 2;", 2, 27);
        faulty(TWO + "edge 0 - 33 by 2;", 2, 31);
        faulty(TWO + "edge 0 - 257 by 2;", 2, 31);
        faulty(TWO + "edge 0 - 9999999 by 2;", 2, 31);
    }

    private static void relationInItsEdgeAlready() {
        sentence(3, "3 a RELATION that is in its EDGE already (at it)");
        faulty(TWO + "edge 0 0 - 1 by 2;", 3, 29);
        faulty(TWO + "edge 0 - 1 1 by 2;", 3, 33);
        faulty(TWO + "edge 0 - 0 by 2;", 3, 31);
        faulty(TWO + "edge 0 1 - 1 by 2;", 3, 33);
        faulty(TWO + "edge 0 - 1 0 by 2;", 3, 33);
        faulty(TWO + "edge 1 - 01 by 2;", 3, 31);
        faulty(EIGHT + "edge 0 1 2 3 4 5 6 7 - 7 by 2;", 3, 111);
        sound(TWO + "edge 0 - 1 by 2;edge 0 - 1 by 2;edge 1 - 0 by 2;", 2);
    }

    private static void ninthRelation() {
        sentence(3, "4 the word relation of a 9th");
        sound("relation 5;".repeat(7), 7);
        sound(EIGHT, 8);
        faulty(EIGHT + "relation 5;", 4, 88);
        faulty(EIGHT + "\n relation 5;", 4, 90);
        faulty(EIGHT + "limit 5;edge 0-1 by 2;relation 5;relation 5;", 4, 110);
        sound(EIGHT + "limit 5;edge 0-7 by 2;", 8);
    }

    private static void seventeenthEdge() {
        sentence(3, "4 the word edge of a 17th");
        sound(TWO + "edge0-1by2;".repeat(15), 2);
        sound(TWO + "edge0-1by2;".repeat(16), 2);
        due("count(1)", of(TWO + "edge0-1by2;".repeat(16)).count(1), 16);
        faulty(TWO + "edge0-1by2;".repeat(17), 4, 198);
        faulty(TWO + "edge0-1by2;".repeat(16) + " relation 5; edge 0-1 by 2;", 4, 211);
        sound(TWO + "edge0-1by2;".repeat(16) + "relation 5;limit 5;", 3);
    }

    // ---- promise 3

    private static void queryEmptiesTheText() {
        sentence(3, "THE TEXT is read as a QUERY (it is empty then)");
        JoinOrders x = new JoinOrders();
        due("query()", queried(x, "relation 5;"), 1);
        due("count(10)", x.count(10), 0);
        due("query() once more, of nothing", x.query(), 0);
        due("query() with a fault", queried(x, "relation 5;relation"), NONE);
        due("count(10)", x.count(10), 0);
        due("query() of nothing", x.query(), 0);
        // What stood behind the end of a text is not read with the next one.
        queried(x, "relationrelation 77777777;;");
        due("query() of relation", queried(x, "relation"), NONE);
        due("fault(true)", x.fault(true), 8);
        queried(x, "relation 5555555555;;;;");
        due("query() of relation 5", queried(x, "relation 5"), NONE);
        due("fault(true)", x.fault(true), 10);
        due("type then", x.type(eightOf("ab", 0)), 2);
    }

    private static void queryIsAsAtFirst() {
        sentence(3, "all is as at first, but as told");
        JoinOrders fresh = new JoinOrders();
        JoinOrders x = laden();
        x.type(eightOf(" x", 0));
        x.query();
        due("query() of nothing", x.query(), 0);
        due("all behind it", Answers.of(x, true), Answers.of(fresh, true));
        due("undo()", x.undo(), NONE);
        x = full();
        due("query() of 500 blanks", x.query(), 0);
        due("all behind it", Answers.of(x, true), Answers.of(fresh, true));
        due("undo()", x.undo(), NONE);
        x = laden();
        x.plan();
        String text = "relation 3;relation 4;edge 1-0 by 2;";
        due("query()", queried(x, text), 2);
        due("all behind it", Answers.of(x, true), Answers.of(of(text), true));
        due("undo()", x.undo(), NONE);
        due("add(5)", x.add(5), 2);
        due("undo()", x.undo(), 0);
        due("undo()", x.undo(), NONE);
    }

    private static void queryOf500Bytes() {
        sentence(3, "THE TEXT has at most 500 bytes");
        String most = EIGHT + "edge0-1by2;".repeat(16);
        String blanks = " ".repeat(500 - most.length());
        sound(blanks + most, 8);
        sound(most + blanks, 8);
        sound(EIGHT + blanks + "edge0-1by2;".repeat(16), 8);
        JoinOrders x = of(blanks + most);
        due("edge(15, 2)", x.edge(15, 2), 2);
        faulty(blanks + most.substring(0, most.length() - 1) + "2", 1, 500);
        faulty("a".repeat(500), 1, 0);
        faulty("1".repeat(500), 1, 0);
        faulty(";".repeat(500), 1, 0);
    }

    private static void queryRefused() {
        sentence(3, "NONE: a FAULT (all but THE TEXT, the FAULT stays)");
        refusedText(";", TextEdges::ladenWithoutText, false, 1, 0);
        refusedText("relation 5;relation 6;edge 0-1 by 2;limit 5;relation", TextEdges::ladenWithoutText, false, 1, 52);
        refusedText("relation 5;relation 0;", TextEdges::ladenWithoutText, false, 2, 20);
        refusedText("limit 5;limit 5001;", TextEdges::ladenWithoutText, false, 2, 14);
        refusedText("relation 5;relation 6;edge 0-0 by 2;", TextEdges::ladenWithoutText, false, 3, 29);
        refusedText(EIGHT + "relation 5;", TextEdges::ladenWithoutText, false, 4, 88);
        refusedText("relation 5;x", JoinOrders::new, false, 1, 11);
        // Its text is full of blanks, so nothing comes: query() of them has no fault; plan() of them has.
        refusedText("", Twins::full, true, 1, 500);
    }

    private static JoinOrders ladenWithoutText() {
        JoinOrders x = laden();
        x.plan();
        return x;
    }
}
