/** 'Terms' and 1 TEXTS: each sentence that names a boundary has a test of its own here. */
public final class TextEdgesTest {
    private static final String[] WORDS = {"module", "import", "def", "fun", "let", "rec", "par", "in"};
    private static final String SIGNS = "{}()=+.,;";

    public static void main(String[] args) {
        Check.sentence("THE TAPE has at most 4000 bytes", TextEdgesTest::fourThousandBytes);
        Check.sentence("PLACES are counted from 0", TextEdgesTest::placesFromZero);
        tokens();
        grammar();
        faults();
        Check.finish(10_000);
    }

    private static void tokens() {
        Check.sentence("TOKENS, each as long as may be", TextEdgesTest::asLongAsMayBe);
        Check.sentence("with BLANKS (9, 10, 13, 32) between", TextEdgesTest::blanksBetween);
        Check.sentence("NAMES (a letter or _, then letters, digits, _", TextEdgesTest::bytesOfNames);
        Check.sentence("12 bytes at most", TextEdgesTest::twelveBytes);
        Check.sentence("but module import def fun let rec par in are WORDS", TextEdgesTest::words);
        Check.sentence("NUMBERS (digits, 9 at most)", TextEdgesTest::nineDigits);
        Check.sentence("SIGNS { } ( ) = + . , ;", TextEdgesTest::signs);
    }

    private static void grammar() {
        Check.sentence("DECS: any number of", TextEdgesTest::anyNumberOfDecs);
        Check.sentence("LONG: NAME, or LONG . NAME", TextEdgesTest::longs);
        Check.sentence("EXP: APPS with + between, one at least", TextEdgesTest::oneAppAtLeast);
        Check.sentence("APP: ATOMS, one at least", TextEdgesTest::oneAtomAtLeast);
        Check.sentence("ATOM: NUMBER, LONG, ( EXP ), fun NAME { EXP }, or let, rec or par, BINDS, in { EXP }",
                TextEdgesTest::atoms);
        Check.sentence("BINDS: NAME = EXP with , between, one at least", TextEdgesTest::oneBindAtLeast);
    }

    private static void faults() {
        Check.sentence("1 at its first byte: a byte with which no token begins", TextEdgesTest::bytesOfNoToken);
        Check.sentence("1 at its first byte: a NAME or NUMBER that is too long", TextEdgesTest::tooLongAtFirstByte);
        Check.sentence("2 at a token: it cannot stand there", TextEdgesTest::misplacedTokens);
        Check.sentence("2 at the tape's length: it cannot stand there", TextEdgesTest::misplacedEnd);
        Check.sentence("(a 1 there comes before)", TextEdgesTest::oneBeforeTwo);
        Check.sentence("3 at a { or (: 21 would be open", TextEdgesTest::twentyOneOpen);
        Check.sentence("4 at a NAME: the 61st declaration", TextEdgesTest::sixtyDeclarations);
        Check.sentence("4 at a NAME: the 101st reference", TextEdgesTest::hundredReferences);
        Check.sentence("(whichever it is)", TextEdgesTest::whicheverItIs);
        Check.sentence("4 at the first one of a LONG behind import: the 7th import of the text", TextEdgesTest::sixImports);
        Check.sentence("5 the 65th (at the NAME of a module", TextEdgesTest::scopesOfModules);
        Check.sentence("5 the 65th (at each NAME of a LONG but the first one", TextEdgesTest::scopesOfLongs);
        Check.sentence("5 the 65th (at fun", TextEdgesTest::scopesOfFuns);
        Check.sentence("5 the 65th (at rec, par", TextEdgesTest::scopesOfRecsAndPars);
        Check.sentence("5 the 65th (at the NAME of a bind of let", TextEdgesTest::scopesOfLets);
        Check.sentence("behind its 4", TextEdgesTest::fiveBehindFour);
        Check.sentence("FAULTS are met from the left, the first one counts", TextEdgesTest::fromTheLeft);
        Check.sentence("all that may be: 60, 100, 6, 64 and 20 at once", TextEdgesTest::fullText);
    }

    // ---- the tape

    private static void fourThousandBytes() {
        String end = "def abcdefghijkl=123456789;";
        Check.right(" ".repeat(4000), 1, 0, 0);
        Check.right(" ".repeat(4000 - end.length()) + end, 1, 1, 0);
        Check.right(end + " ".repeat(4000 - end.length()), 1, 1, 0);
        Check.right("def a=1" + "+1".repeat(1996) + ";", 1, 1, 0);
        Check.right("def a=" + "1 ".repeat(1996) + "; ", 1, 1, 0);
        Check.faulty(2, " ".repeat(3991) + "def a = 1^");
        Check.faulty(2, " ".repeat(3999) + "^;");
        Check.faulty(1, " ".repeat(3999) + "^#");
        Check.faulty(1, "^" + "x".repeat(4000));
        Check.faulty(1, "def a =^" + "1".repeat(3993));
        Check.faulty(1, " ".repeat(3987) + "^abcdefghijklm");
    }

    private static void placesFromZero() {
        Check.faulty(1, "^#");
        Check.faulty(2, "^;");
        Check.faulty(2, "^1");
        Check.faulty(1, " ^#");
        ScopeGraph graph = Check.reading("def a=a;");
        Check.due("the declaration's place", graph.declaration(0, 1), 4);
        Check.due("the reference's place", graph.reference(0, 1), 6);
        Check.due("the byte at place 0", graph.letter(0), 'd');
    }

    // ---- tokens

    private static void asLongAsMayBe() {
        Check.faulty(2, "^defa=1;");
        Check.faulty(2, "^modulem{}");
        Check.faulty(2, "^importa;");
        Check.right("def a=letx+inx+funx+recx+parx+defx;", 1, 1, 6);
        Check.right("def a=b1c_2 b1 c_2;", 1, 1, 3);
        Check.right("def a=1b 22c_9_Z 7_;", 1, 1, 3);
        Check.faulty(1, "def a=^1234567890;");
        Check.faulty(1, "def ^abcdefghijklm=1;");
        Check.faulty(2, "def a=let x=1in2^{1};");
        Check.right("def a=let x=1in{1};", 2, 2, 0);
        ScopeGraph graph = Check.reading("def a=1;def b=2;def c=ab a b;");
        Check.due("ab is not a and b", Check.meaning(graph, 0), "");
        Check.due("a behind it", Check.meaning(graph, 1), "0");
        Check.due("b behind it", Check.meaning(graph, 2), "1");
    }

    private static void blanksBetween() {
        String[] pieces = {"module", "A", "{", "import", "B", ".", "C", ";", "}", "def", "a", "=", "1", "+", "b", "(", "fun", "x",
            "{", "y", "}", ")", "let", "d", "=", "2", ",", "e", "=", "3", "in", "{", "4", "}", ";"};
        for (char blank : new char[] {9, 10, 13, 32}) {
            Check.right(String.join("" + blank, pieces), 6, 5, 4);
            Check.right(blank + String.join(blank + "\t\n\r ", pieces) + blank, 6, 5, 4);
            Check.right("" + blank, 1, 0, 0);
            Check.faulty(2, "d" + blank + "ef a=1;", 0);
            Check.faulty(2, "def a" + blank + "^b=1;");
        }
        for (int b = 0; b < 256; b++) {
            if (b != 9 && b != 10 && b != 13 && b != 32 && SIGNS.indexOf(b) < 0 && !inName(b)) {
                Check.faulty(1, "def" + (char) b + "a=1;", 3);
            }
        }
        Check.right("module A{import B.C;}def a=1+b(fun x{y})let d=2,e=3 in{4};", 6, 5, 4);
    }

    private static boolean beginsName(int b) {
        return b >= 'a' && b <= 'z' || b >= 'A' && b <= 'Z' || b == '_';
    }

    private static boolean inName(int b) {
        return beginsName(b) || b >= '0' && b <= '9';
    }

    private static void bytesOfNames() {
        for (int b = 0; b < 256; b++) {
            char c = (char) b;
            if (beginsName(b)) {
                Check.right("def " + c + "=1;", 1, 1, 0);
                Check.right("def a=" + c + ";", 1, 1, 1);
            } else if (inName(b)) {
                Check.faulty(2, "def " + c + "=1;", 4);
                Check.right("def a=" + c + ";", 1, 1, 0);
            }
            if (inName(b)) {
                Check.right("def a" + c + "=1;", 1, 1, 0);
                Check.right("def a=a" + c + ";", 1, 1, 1);
            }
        }
    }

    private static void twelveBytes() {
        String[] around = {"def ^=1;", "module ^{}", "import ^;", "import a.^;", "def a=^;", "def a=b.^;", "def a=fun ^{1};",
            "def a=let ^=1 in{1};", "def a=rec ^=1 in{1};", "def a=par ^=1 in{1};", "def a=let b=1,^=1 in{1};"};
        for (String text : around) {
            for (String name : new String[] {"abcdefghijkl", "_", "____________", "Z00000000009", "modulemodule"}) {
                ScopeGraph graph = Check.reading(text.replace("^", name));
                Check.due("fault() with " + name, graph.fault(), 0);
            }
            for (String name : new String[] {"abcdefghijklm", "_____________", "Z000000000009", "modulemodulem", "a".repeat(30)}) {
                Check.faulty(1, text.replace("^", "^" + name));
            }
        }
        Check.right("def a=123456789abcdefghijkl;", 1, 1, 1);
        Check.faulty(1, "def a=123456789^abcdefghijklm;");
        ScopeGraph graph = Check.reading("def abcdefghijkl=1;def abcdefghijkm=abcdefghijkl abcdefghijkm abcdefghijk;");
        Check.due("all twelve bytes count", Check.meaning(graph, 0), "0");
        Check.due("and the last one", Check.meaning(graph, 1), "1");
        Check.due("eleven bytes are another name", Check.meaning(graph, 2), "");
    }

    private static void words() {
        String[] around = {"def ^=1;", "module ^{}", "import ^;", "import a.^;", "def a=b.^;", "def a=fun ^{1};",
            "def a=let ^=1 in{1};", "def a=rec ^=1 in{1};", "def a=par ^=1 in{1};", "def a=par b=1,^=1 in{1};"};
        for (String word : WORDS) {
            for (String text : around) {
                Check.faulty(2, text.replace("^", "^" + word));
                likeWords(text, word);
            }
            boolean begins = "fun let rec par".contains(word);
            Check.faulty(2, "def a=" + (begins ? "" : "^") + word + (begins ? "^;" : ";"));
        }
    }

    private static void likeWords(String around, String word) {
        String[] names = {word + "_", word + "0", "_" + word, word.toUpperCase(), word.substring(0, 1).toUpperCase() + word.substring(1),
            word.substring(0, word.length() - 1)};
        for (String name : names) {
            ScopeGraph graph = Check.reading(around.replace("^", name));
            Check.due("fault() with the name " + name, graph.fault(), 0);
        }
    }

    private static void nineDigits() {
        for (String number : new String[] {"0", "9", "000000000", "999999999", "123456789"}) {
            Check.right("def a=" + number + ";", 1, 1, 0);
        }
        for (String number : new String[] {"0000000000", "9999999999", "1234567890", "1".repeat(40)}) {
            Check.faulty(1, "def a=^" + number + ";");
            Check.faulty(1, "def a=^" + number);
            Check.faulty(1, "def a=b+^" + number + "c;");
        }
        Check.right("def a=123456789 123456789+123456789;", 1, 1, 0);
    }

    private static void signs() {
        Check.right("module M{import N.O;}def a=(1)+let x=1,y=2 in{3};", 5, 4, 2);
        for (int b = 33; b < 256; b++) {
            if (!inName(b)) {
                Check.faulty(SIGNS.indexOf(b) >= 0 ? 2 : 1, "" + (char) b, 0);
            }
        }
    }

    // ---- the grammar

    private static void anyNumberOfDecs() {
        Check.right("", 1, 0, 0);
        Check.right(" \n", 1, 0, 0);
        Check.right("module M{}", 2, 1, 0);
        Check.right("module M{module N{}}", 3, 2, 0);
        Check.right("module M{def a=1;import A;module N{}}", 3, 3, 1);
        Check.right("def a=1;", 1, 1, 0);
        Check.right("import A;", 1, 0, 1);
        Check.right("def a=1;import A;module N{}def b=2;import B;module O{}", 3, 4, 2);
        Check.right("def a=1;".repeat(60), 1, 60, 0);
        Check.right("module m{}".repeat(60), 61, 60, 0);
        Check.right("module m{" + "def a=1;".repeat(59) + "}", 2, 60, 0);
        Check.faulty(2, "def a=fun x{^};");
        Check.faulty(2, "def a=fun x{^def b=1;};");
    }

    private static void longs() {
        Check.right("import A;", 1, 0, 1);
        Check.right("import A.B;", 2, 0, 2);
        Check.right("import A . B\n.\tC;", 3, 0, 3);
        Check.right("def a=b;", 1, 1, 1);
        Check.right("def a=b.c d.e.f;", 4, 1, 5);
        Check.faulty(2, "import ^;");
        Check.faulty(2, "import ^.A;");
        Check.faulty(2, "import A.^;");
        Check.faulty(2, "import A.^.B;");
        Check.faulty(2, "import A.^1;");
        Check.faulty(2, "import A ^B;");
        Check.faulty(2, "def a=^.b;");
        Check.faulty(2, "def a=b.^;");
        Check.faulty(2, "def a=b.^1;");
        Check.faulty(2, "def a=b.^(c);");
        Check.faulty(2, "def a=(b)^.c;");
        Check.faulty(2, "def a=1^.c;");
        Check.faulty(2, "def a^.b=1;");
        Check.faulty(2, "module A^.B{}");
    }

    private static final String[] EXPS = {"def a=^;", "def a=(^);", "def a=fun x{^};", "def a=let x= ^in{1};", "def a=rec x= ^in{1};",
        "def a=par x= ^in{1};", "def a=let x=^,y=1 in{1};", "def a=let x=1 in{^};", "def a=rec x=1 in{^};", "def a=par x=1 in{^};"};

    private static void oneAppAtLeast() {
        for (String exp : EXPS) {
            Check.faulty(2, exp);
            Check.faulty(2, exp.replace("^", "^+1"));
            Check.faulty(2, exp.replace("^", "1+^"));
            Check.faulty(2, exp.replace("^", "1+^+1"));
            Check.due("one APP: fault()", Check.reading(exp.replace("^", "1 ")).fault(), 0);
            Check.due("many APPS: fault()", Check.reading(exp.replace("^", "1+b+2+c.d ")).fault(), 0);
        }
    }

    private static void oneAtomAtLeast() {
        for (String exp : EXPS) {
            Check.faulty(2, exp.replace("^", "1 2+^+3"));
            Check.faulty(2, exp.replace("^", "(^)"));
            Check.due("one ATOM: fault()", Check.reading(exp.replace("^", "b ")).fault(), 0);
            Check.due("many ATOMS: fault()", Check.reading(exp.replace("^", "b 1 c.d(2)fun z{3}+4 5 ")).fault(), 0);
        }
    }

    private static void atoms() {
        Check.right("def a=1;", 1, 1, 0);
        Check.right("def a=b.c;", 2, 1, 2);
        Check.right("def a=((b));", 1, 1, 1);
        Check.right("def a=fun x{x};", 2, 2, 1);
        for (String word : new String[] {"let", "rec", "par"}) {
            Check.right("def a=" + word + " x=1 in{x};", 2, 2, 1);
            Check.faulty(2, "def a=" + word + " x=1^;");
            Check.faulty(2, "def a=" + word + " x=1 in ^1;");
            Check.faulty(2, "def a=" + word + " x=1 in{1^)");
            Check.faulty(2, "def a=" + word + " x=1^}");
            Check.faulty(2, "def a=" + word + " x=1^{1};");
            Check.faulty(2, "def a=" + word + " x ^1 in{1};");
        }
        Check.faulty(2, "def a=fun ^{1};");
        Check.faulty(2, "def a=fun ^1{1};");
        Check.faulty(2, "def a=fun x ^1;");
        Check.faulty(2, "def a=fun x{1^);");
        Check.faulty(2, "def a=(1^};");
        Check.faulty(2, "def a=(1^;");
        Check.faulty(2, "def a=1^);");
    }

    private static void oneBindAtLeast() {
        for (String word : new String[] {"let", "rec", "par"}) {
            Check.faulty(2, "def a=" + word + " ^in{1};");
            Check.faulty(2, "def a=" + word + " ^,x=1 in{1};");
            Check.faulty(2, "def a=" + word + " x=1,^in{1};");
            Check.faulty(2, "def a=" + word + " x=1,^,y=1 in{1};");
            Check.faulty(2, "def a=" + word + " x=1 y^=2 in{1};");
            Check.faulty(2, "def a=" + word + " x=1,y ^in{1};");
            Check.faulty(2, "def a=" + word + " x=1 in{1^,y=2};");
            Check.faulty(2, "def a=" + word + " x=(1^,y=2) in{1};");
            Check.right("def a=" + word + " x=1 in{1};", 2, 2, 0);
            Check.right("def a=" + word + " x=1,x=2,y=3 in{1};", word.equals("let") ? 4 : 2, 4, 0);
            Check.right("def a=" + word + " x=1" + ",x=1".repeat(58) + " in{1};", word.equals("let") ? 60 : 2, 60, 0);
        }
    }

    // ---- faults 1 and 2

    private static void bytesOfNoToken() {
        for (int b = 0; b < 256; b++) {
            char c = (char) b;
            boolean blank = b == 9 || b == 10 || b == 13 || b == 32;
            if (!blank && !inName(b) && SIGNS.indexOf(b) < 0) {
                Check.faulty(1, "" + c, 0);
                Check.faulty(1, "def a=1 " + c, 8);
                Check.faulty(1, "def a=b" + c + "b;", 7);
                Check.faulty(1, "def a=1" + c + "1;", 7);
                Check.faulty(1, "def a=1;" + c, 8);
            }
        }
    }

    private static void tooLongAtFirstByte() {
        Check.faulty(1, "^abcdefghijklm");
        Check.faulty(1, "^1234567890");
        Check.faulty(1, "  ^abcdefghijklm{}");
        Check.faulty(1, "def a=b.^abcdefghijklm;");
        Check.faulty(1, "def a=b+^12345678901234;");
        Check.faulty(1, "def a=1 ^abcdefghijklmno");
    }

    private static void misplacedTokens() {
        String[] starts = {"a", "1", "in", "fun", "let", "rec", "par", "{", "}", "(", ")", "=", "+", ".", ",", ";"};
        for (String start : starts) {
            Check.faulty(2, "^" + start);
            Check.faulty(2, "def a=1; ^" + start);
            if (!start.equals("}")) {
                Check.faulty(2, "module M{^" + start);
            }
        }
        Check.faulty(2, "module ^{}");
        Check.faulty(2, "module ^1{}");
        Check.faulty(2, "module A^;");
        Check.faulty(2, "module A{}^}");
        Check.faulty(2, "import A^+B;");
        Check.faulty(2, "import A^,B;");
        Check.faulty(2, "import A^)");
        Check.faulty(2, "import A ^in");
        Check.faulty(2, "import ^(A);");
        Check.faulty(2, "def ^1=1;");
        Check.faulty(2, "def a ^1;");
        Check.faulty(2, "def a=1^}");
        Check.faulty(2, "def a=1^,b;");
        Check.faulty(2, "def a=1 ^in{2};");
        Check.faulty(2, "def a=1 ^def b=2;");
        Check.faulty(2, "def a=^import;");
        Check.faulty(2, "def a=let b=1^; in{1};");
        Check.faulty(2, "def a=let b=1 in{1 ^in{2}};");
        Check.faulty(2, "def a=let b=1 in ^in{1};");
    }

    private static void misplacedEnd() {
        String[] pieces = {"module", " A", "{", "import", " B", ".", "C", ";", "}", "def", " a", "=", "1", "+", "b", ".",
            "c", "(", "fun", " x", "{", "y", "}", ")", "let", " d", "=", "2", ",", "e", "=", "3", " in", "{", "4", "}",
            "rec", " f", "=", "5", " in", "{", "6", "}", "par", " g", "=", "7", " in", "{", "8", "}", ";"};
        StringBuilder text = new StringBuilder();
        for (int n = 0; n <= pieces.length; n++) {
            if (n != 0 && n != 9 && n != pieces.length) {
                Check.faulty(2, text + "^");
                Check.faulty(2, text + " \n^");
            }
            if (n < pieces.length) {
                text.append(pieces[n]);
            }
        }
        Check.right(text.toString(), 9, 7, 5);
        Check.faulty(2, "def a = 1" + " ".repeat(3991) + "^");
    }

    private static void oneBeforeTwo() {
        Check.faulty(1, "^1234567890;");
        Check.faulty(1, "module ^1234567890{}");
        Check.faulty(1, "import ^1234567890;");
        Check.faulty(1, "def ^#=1;");
        Check.faulty(1, "def a ^1234567890");
        Check.faulty(1, "def a ^abcdefghijklm");
        Check.faulty(1, "def a=b.^1234567890;");
        Check.faulty(1, "def a=fun ^1234567890{1};");
        Check.faulty(1, "def a=let ^1234567890=1 in{1};");
        Check.faulty(1, "def a=let b=1 in ^abcdefghijklm");
        Check.faulty(1, "def a=^#;");
        Check.faulty(1, "def a=1;^abcdefghijklm");
    }

    // ---- fault 3

    private static void twentyOneOpen() {
        String[] opening = {"fun x{", "let x=1 in{", "rec x=1 in{", "par x=1 in{", "("};
        for (String open : opening) {
            String close = open.equals("(") ? ")" : "}";
            Check.due("20 of " + open, Check.reading("def a=" + open.repeat(20) + "1" + close.repeat(20) + ";").fault(), 0);
            String mark = open.replace("{", "^{").replace("(", "^(");
            Check.faulty(3, "def a=" + open.repeat(20) + mark + "1" + close.repeat(21) + ";");
            Check.faulty(3, "def a=" + open.repeat(20) + mark);
            Check.due("as the 20th", Check.reading("def a=" + "(".repeat(19) + open + "1" + close + ")".repeat(19) + ";").fault(), 0);
            Check.faulty(3, "def a=" + "(".repeat(20) + mark + "1" + close + ")".repeat(20) + ";");
            Check.faulty(3, "module M{".repeat(20) + "def a=" + mark + "1");
        }
        Check.right("module M{".repeat(20) + "}".repeat(20), 21, 20, 0);
        Check.faulty(3, "module M{".repeat(20) + "module M^{");
        Check.right("module M{".repeat(20) + "def a=1;" + "}".repeat(20) + "module M{}", 22, 22, 0);
        Check.right("def a=" + ("(".repeat(20) + "1" + ")".repeat(20)).repeat(3) + ";", 1, 1, 0);
        Check.faulty(3, "def a=" + "(".repeat(20) + "1)(1)(^(1");
        Check.right("def a=" + "let x=".repeat(30) + "1" + " in{1}".repeat(30) + ";", 31, 31, 0);
        Check.faulty(2, "def a=" + "(".repeat(20) + "^{");
        Check.faulty(2, "def a=" + "(".repeat(20) + "fun ^(");
        Check.faulty(2, "def a=" + "(".repeat(20) + "fun x ^(");
    }

    // ---- fault 4

    private static String defs(int n) {
        return "def a=1;".repeat(n);
    }

    private static void sixtyDeclarations() {
        Check.right(defs(60), 1, 60, 0);
        Check.faulty(4, defs(60) + "def ^b=1;");
        Check.faulty(4, defs(60) + "def ^b");
        Check.right(defs(59) + "module m{}", 2, 60, 0);
        Check.faulty(4, defs(60) + "module ^m{}");
        Check.right(defs(58) + "def a=fun x{1};", 2, 60, 0);
        Check.faulty(4, defs(59) + "def a=fun ^x{1};");
        for (String word : new String[] {"let", "rec", "par"}) {
            Check.right(defs(58) + "def a=" + word + " x=1 in{1};", 2, 60, 0);
            Check.faulty(4, defs(59) + "def a=" + word + " ^x=1 in{1};");
            Check.faulty(4, defs(58) + "def a=" + word + " x=1,^y=2 in{1};");
            Check.right(defs(57) + "def a=" + word + " x=1,y=2 in{1};", word.equals("let") ? 3 : 2, 60, 0);
        }
    }

    private static void hundredReferences() {
        Check.right("def a=" + "x ".repeat(100) + ";", 1, 1, 100);
        Check.faulty(4, "def a=" + "x ".repeat(100) + "^x;");
        Check.right("def a=" + "x ".repeat(98) + "x.y;", 2, 1, 100);
        Check.faulty(4, "def a=" + "x ".repeat(99) + "x.^y;");
        Check.right("def a=" + "x ".repeat(99) + ";import x;", 1, 1, 100);
        Check.faulty(4, "def a=" + "x ".repeat(100) + ";import ^x;");
        Check.faulty(4, "def a=" + "x ".repeat(99) + ";import x.^y;");
        Check.faulty(4, "def a=fun x{" + "x ".repeat(100) + "}+^x;");
    }

    private static void whicheverItIs() {
        Check.right(defs(59) + "def a=" + "x ".repeat(100) + ";", 1, 60, 100);
        Check.faulty(4, defs(59) + "def a=" + "x ".repeat(100) + "^x;");
        Check.faulty(4, defs(59) + "def a=" + "x ".repeat(100) + ";def ^b=1;");
        Check.faulty(4, defs(59) + "def a=" + "x ".repeat(99) + "fun ^y{x x};");
        Check.right("def a=" + "x ".repeat(100) + ";" + defs(59), 1, 60, 100);
        Check.faulty(4, "def a=" + "x ".repeat(100) + ";" + defs(59) + "module ^b{}");
    }

    private static void sixImports() {
        Check.right("import a;".repeat(6), 1, 0, 6);
        Check.faulty(4, "import a;".repeat(6) + "import ^a;");
        Check.right("import a.b.c;".repeat(6), 13, 0, 18);
        Check.faulty(4, "import a.b.c;".repeat(6) + "import ^a.b.c;");
        Check.right("import a;".repeat(6) + "def d=a.b a.c.d;", 4, 1, 11);
        Check.right("def d=a.b.c.d.e.f.g.h;" + "import a;".repeat(6), 8, 1, 14);
        Check.right("import a;".repeat(2) + "module M{" + "import a;".repeat(2) + "module N{" + "import a;".repeat(2) + "}}", 3, 2, 6);
        Check.faulty(4, "import a;".repeat(3) + "module M{" + "import a;".repeat(3) + "module N{import ^b.c;");
        Check.faulty(4, "module M{import a;}".repeat(6) + "module M{import ^a;}");
        Check.faulty(2, "import a;".repeat(6) + "import ^1;");
        Check.faulty(2, "import a;".repeat(6) + "import^");
        Check.faulty(1, "import a;".repeat(6) + "import ^#;");
    }

    // ---- fault 5

    /** As many LONG scopes as leave room for this many others; the program's own is one of the 64. */
    private static String roomFor(int others) {
        return "import a" + ".a".repeat(63 - others) + ";";
    }

    private static void scopesOfModules() {
        Check.right(roomFor(1) + "module m{}", 64, 1, 63);
        Check.faulty(5, roomFor(0) + "module ^m{}");
        Check.faulty(5, roomFor(1) + "module m{module ^n{}}");
        Check.faulty(2, roomFor(0) + "module ^{}");
    }

    private static void scopesOfLongs() {
        Check.right("import a" + ".a".repeat(63) + ";", 64, 0, 64);
        Check.faulty(5, "import a" + ".a".repeat(63) + ".^a;");
        Check.right("def d=a" + ".a".repeat(63) + ";", 64, 1, 64);
        Check.faulty(5, "def d=a" + ".a".repeat(63) + ".^a;");
        Check.right(roomFor(0) + "import a;def d=a;", 64, 1, 66);
        Check.faulty(5, roomFor(0) + "def d=a.^b.c;");
        Check.faulty(5, roomFor(1) + "def d=a.b.^c;");
        Check.faulty(2, roomFor(0) + "def d=a.^1;");
    }

    private static void scopesOfFuns() {
        Check.right(roomFor(1) + "def d=fun x{1};", 64, 2, 63);
        Check.faulty(5, roomFor(0) + "def d=^fun x{1};");
        Check.faulty(5, roomFor(0) + "def d=^fun;");
        Check.faulty(5, roomFor(1) + "def d=fun x{^fun y{1}};");
    }

    private static void scopesOfRecsAndPars() {
        for (String word : new String[] {"rec", "par"}) {
            Check.right(roomFor(1) + "def d=" + word + " x=1,y=2 in{1};", 64, 3, 63);
            Check.faulty(5, roomFor(0) + "def d=^" + word + " x=1,y=2 in{1};");
            Check.faulty(5, roomFor(0) + "def d=^" + word + ";");
            Check.faulty(5, roomFor(1) + "def d=" + word + " x=^" + word + " y=2 in{1} in{2};");
        }
    }

    private static void scopesOfLets() {
        Check.right(roomFor(2) + "def d=let x=1,y=2 in{1};", 64, 3, 62);
        Check.faulty(5, roomFor(1) + "def d=let x=1,^y=2 in{1};");
        Check.faulty(5, roomFor(0) + "def d=let ^x=1,y=2 in{1};");
        Check.faulty(2, roomFor(0) + "def d=let ^1");
        Check.faulty(2, roomFor(0) + "def d=let ^in{1};");
        Check.faulty(5, roomFor(1) + "def d=let x=let ^y=1 in{1} in{1};");
    }

    /** At a NAME where both are met the 4 is told, of a let's bind as of a module and of a LONG. */
    private static void fiveBehindFour() {
        Check.faulty(4, defs(59) + roomFor(0) + "def d=let ^x=1 in{1};");
        Check.faulty(5, defs(58) + roomFor(0) + "def d=let ^x=1 in{1};");
        Check.faulty(4, defs(59) + roomFor(1) + "def d=let ^x=1 in{1};");
        Check.faulty(4, defs(58) + roomFor(1) + "def d=let x=1,^y=1 in{1};");
        Check.faulty(5, defs(57) + roomFor(1) + "def d=let x=1,^y=1 in{1};");
        Check.faulty(4, defs(60) + roomFor(0) + "module ^m{}");
        Check.faulty(5, defs(59) + roomFor(0) + "module ^m{}");
        String references = "def d=" + "x ".repeat(36) + ";" + roomFor(0);
        Check.faulty(4, "def d=" + "x ".repeat(36) + ";import a" + ".a".repeat(63) + ".^a;");
        Check.faulty(4, references + "def e=^x.y;");
        Check.faulty(5, "def d=" + "x ".repeat(34) + ";" + roomFor(0) + "def e=x.^y;");
        Check.faulty(4, "def d=" + "x ".repeat(35) + ";" + roomFor(0) + "def e=x.^y;");
    }

    private static void fromTheLeft() {
        Check.faulty(2, "def a=1 ^) #");
        Check.faulty(1, "def a=1 ^# )");
        Check.faulty(3, "def a=" + "(".repeat(20) + "^(#");
        Check.faulty(1, "def a=^#" + "(".repeat(21));
        Check.faulty(2, "def a=1 ^}" + "(".repeat(30));
        Check.faulty(4, defs(60) + "def ^b=" + "(".repeat(21));
        Check.faulty(3, defs(59) + "def a=" + "(".repeat(20) + "^(1;def b=1;");
        Check.faulty(4, defs(60) + "def ^b=" + "a" + ".a".repeat(64) + ";");
        Check.faulty(5, defs(59) + "def b=a" + ".a".repeat(63) + ".^a;def c=1;");
        Check.faulty(5, defs(59) + roomFor(0) + "def d=^fun x{1};");
        Check.faulty(5, defs(59) + roomFor(0) + "def d=^rec x=1 in{1};");
        Check.faulty(5, roomFor(0) + "def d=" + "(".repeat(20) + "^fun x{1}");
        Check.faulty(3, roomFor(0) + "def d=" + "(".repeat(20) + "^(fun x{1}");
        Check.faulty(4, roomFor(0) + "import a;".repeat(5) + "import ^a.b;");
    }

    /** Fifty-nine lets, each in the one before, make the deepest nest that a text can have. */
    private static void fullText() {
        ScopeGraph graph = Check.reading("def a=" + "let x=".repeat(59) + "(".repeat(20) + "x" + " x".repeat(88) + ")".repeat(20)
                + " in{1}".repeat(59) + "+y.y.y.y.y;" + "import y;".repeat(6));
        int[] due = {64, 60, 100, 10};
        for (int what = 0; what < due.length; what++) {
            Check.due("the full text's count(" + what + ")", graph.count(what), due[what]);
        }
        Check.due("its last declaration", graph.declaration(59, 0), 59);
        Check.due("its last reference", graph.reference(99, 2), 0);
        Check.due("its last scope", graph.scope(63, 1), 6);
    }
}
