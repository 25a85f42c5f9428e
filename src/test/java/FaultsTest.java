import java.util.Arrays;
import java.util.List;

/** The document's paragraph on FAULTS, sentence by sentence. */
public final class FaultsTest {
    private static final String[] WORDS_OF_THE_GRAMMAR = {
        "reg", "input", "wire", "next", "spec", "A", "E", "U", "AX", "EX", "AF", "EF", "AG", "EG"};
    private static final String LONG_WORD = Check.times(32, "z");
    /** All that can stand somewhere: WORDS, NUMBERS, signs, and what is none of these. */
    private static final String[] WHATEVER = {
        ";", ":", "=", "?", "(", ")", "[", "]", "{", "}", "==", "!=", "<", "<=", ">", ">=", "<<", ">>", "+", "-", "*", "&",
        "&&", "|", "||", "^", "~", "!", "->", "reg", "input", "wire", "next", "spec", "A", "E", "U", "AX", "EX", "AF", "EF",
        "AG", "EG", "unknown", "0", "1", "255", "256", "999999999", "1234567890", LONG_WORD, "%", "_", "\u0000", "\u00ff"};

    public static void main(String[] args) {
        fromLeftToRight();
        outOfPlace();
        theEnd();
        tooLong();
        wordOfTheGrammar();
        notKnown();
        withinItsLine();
        declaredAlready();
        asThe61st();
        ofAnotherKind();
        hasANext();
        outOfRange();
        bitsBeyond();
        whereItStands();
        tooDeep();
        the61st();
        the31st();
        the4001st();
        costs();
        Check.finish();
    }

    private static void fromLeftToRight() {
        Check.sentence("FAULTS, the first that is found, from left to right");
        String deep = "wire v = " + Check.times(41, "(") + "@1" + Check.times(41, ")") + ";";
        String[][] faulty = {
            {"wire x = 1 @2;", "wire x = @;", "@;", "wire x @;"}, {"wire x = @x;", "wire @p = 1;", "next @p = 1;"},
            {"wire x = @256;", "reg x : @9 = 0;", "reg x : 1 = @2;"}, {deep, "wire x = 1*1*1*1@*1;"}};
        String before = "wire p = 1;\n";
        for (int one = 0; one < 4; one++) {
            for (String first : faulty[one]) {
                Check.dueFaultAtMark(one + 1, before + first);
                for (int two = 0; two < 4; two++) {
                    for (String second : faulty[two]) {
                        Check.dueFaultAtMark(one + 1, before + first + "\n" + second.replace("@", ""));
                    }
                }
            }
        }
        Check.dueFaultAtMark(2, "wire x = @unknown + 256 2;");
        Check.dueFaultAtMark(3, "wire x = @256 + unknown 2;");
        Check.dueFaultAtMark(1, "wire x = 1 @2 + unknown + 256;");
        Check.dueFaultAtMark(2, "wire p = 1; reg @p : 9 = 999;");
        Check.dueFaultAtMark(3, "reg p : @9 = 999");
        Check.dueFaultAtMark(3, "reg p : 2 = @999");
        Check.dueFaultAtMark(1, "spec s = {1@;" + Check.times(4100, ";"));
        Check.dueFaultAtMark(1, "@%" + Check.times(4100, ";"));
    }

    private static final String BINARY = "|| && | ^ & == != < <= > >= << >> + - *";
    /** Words before a place, and all that may stand there (of what has no other FAULT). */
    private static final String[][] PLACES = {
        {"", "reg input wire next spec"},
        {"wire p = 1; ", "reg input wire next spec"},
        {"reg ", "unknown"},
        {"input ", "unknown"},
        {"wire ", "unknown"},
        {"spec ", "unknown"},
        {"reg p ", ":"},
        {"reg p : ", "1"},
        {"reg p : 1 ", "="},
        {"reg p : 1 = ", "0 1"},
        {"reg p : 1 = 0 ", ";"},
        {"input p ", ":"},
        {"input p : ", "1"},
        {"input p : 1 ", ";"},
        {"wire p ", "="},
        {"reg r : 1 = 0; next ", "r"},
        {"reg r : 1 = 0; next r ", "="},
        {"spec p ", "="},
        {"wire p = ", "- ~ ! ( 0 1 255"},
        {"wire p = 1 + ", "- ~ ! ( 0 1 255"},
        {"wire p = ~", "- ~ ! ( 0 1 255"},
        {"wire p = 1 ? ", "- ~ ! ( 0 1 255"},
        {"wire p = 1 ? 1 : ", "- ~ ! ( 0 1 255"},
        {"wire p = (", "- ~ ! ( 0 1 255"},
        {"reg r : 1 = 0; next r = ", "- ~ ! ( 0 1 255"},
        {"spec p = {", "- ~ ! ( 0 1 255"},
        {"wire p = 1 ", BINARY + " ? ;"},
        {"wire p = (1) ", BINARY + " ? ;"},
        {"wire q = 1; wire p = q ", BINARY + " ? ;"},
        {"wire p = 1 + 1 ", BINARY + " ? ;"},
        {"wire p = -1 ", BINARY + " ? ;"},
        {"wire p = (1 ", BINARY + " ? )"},
        {"wire p = 1 ? 1 ", BINARY + " ? :"},
        {"wire p = 1 ? 1 : 1 ", BINARY + " ? ;"},
        {"reg r : 1 = 0; next r = 1 ", BINARY + " ? ;"},
        {"spec p = {1 ", BINARY + " ? }"},
        {"spec p = ", "! AX EX AF EF AG EG A E ( {"},
        {"spec p = ! ", "! AX EX AF EF AG EG A E ( {"},
        {"spec p = AG ", "! AX EX AF EF AG EG A E ( {"},
        {"spec p = (", "! AX EX AF EF AG EG A E ( {"},
        {"spec p = A [ ", "! AX EX AF EF AG EG A E ( {"},
        {"spec p = E [ {1} U ", "! AX EX AF EF AG EG A E ( {"},
        {"spec p = {1} && ", "! AX EX AF EF AG EG A E ( {"},
        {"spec p = {1} || ", "! AX EX AF EF AG EG A E ( {"},
        {"spec p = {1} -> ", "! AX EX AF EF AG EG A E ( {"},
        {"spec p = A ", "["},
        {"spec p = E ", "["},
        {"spec p = {1} ", "&& || -> ;"},
        {"spec q = {1}; spec p = q ", "&& || -> ;"},
        {"spec p = ({1}) ", "&& || -> ;"},
        {"spec p = !{1} ", "&& || -> ;"},
        {"spec p = EX {1} ", "&& || -> ;"},
        {"spec p = {1} && {1} ", "&& || -> ;"},
        {"spec p = {1} -> {1} ", "&& || -> ;"},
        {"spec p = A [ {1} U {1} ] ", "&& || -> ;"},
        {"spec p = ({1} ", "&& || -> )"},
        {"spec p = A [ {1} ", "&& || -> U"},
        {"spec p = E [ {1} U {1} ", "&& || -> ]"}};

    private static void outOfPlace() {
        Check.sentence("1 a WORD, NUMBER or sign that can't stand there");
        for (String[] place : PLACES) {
            List<String> allowed = Arrays.asList(place[1].split(" "));
            boolean takesNumber = allowed.contains("1");
            boolean takesKnownName = allowed.contains("!") || allowed.contains("r");
            for (String what : WHATEVER) {
                if (allowed.contains(what)) {
                    dueMayStand(place[0], what);
                } else if (takesNumber && isNumber(what)) {
                    Check.dueFaultAtMark(3, place[0] + "@" + what);
                } else if (takesKnownName && what.equals("unknown")) {
                    Check.dueFaultAtMark(2, place[0] + "@" + what);
                } else {
                    Check.dueFaultAtMark(1, place[0] + "@" + what);
                    Check.dueFaultAtMark(1, place[0] + "\t#\n@" + what + " ;");
                }
            }
        }
    }

    private static boolean isNumber(String what) {
        return what.length() < 10 && Character.isDigit(what.charAt(0));
    }

    /** What may stand there has no FAULT itself: a byte that is none behind it is the first one. */
    private static void dueMayStand(String before, String what) {
        Check.dueFaultAtMark(1, before + what + " @%");
    }

    private static void theEnd() {
        Check.sentence("(the end, too");
        Check.dueFaultAtMark(1, "wire@");
        Check.dueFaultAtMark(1, "wire \n@");
        Check.dueFaultAtMark(1, "wire a = 1@");
        Check.dueFaultAtMark(1, "wire a = 1    # left open;@");
        Check.dueFaultAtMark(1, "wire a = 1; spec s = {a}; reg@");
        Check.dueFaultAtMark(1, "reg r : 1 = 0; next@");
        Check.dueSound("wire a = 1;   # whole");
    }

    private static void tooLong() {
        Check.sentence("one too long");
        Check.dueFaultAtMark(1, "@" + LONG_WORD);
        Check.dueFaultAtMark(1, "wire @" + LONG_WORD + " = 1;");
        Check.dueFaultAtMark(1, "wire a = @" + LONG_WORD + ";");
        Check.dueFaultAtMark(1, "spec a = @" + LONG_WORD + ";");
        Check.dueFaultAtMark(1, "reg a : 1 = 0; next @" + LONG_WORD + " = 1;");
        Check.dueFaultAtMark(1, "wire a = @1234567890;");
        Check.dueFaultAtMark(1, "reg a : @0000000008 = 0;");
        Check.dueFaultAtMark(1, "reg a : 8 = @0000000255;");
        Check.dueFaultAtMark(1, "input a : @0000000003;");
        Check.dueFaultAtMark(2, "wire a = @" + LONG_WORD.substring(1) + ";");
        Check.dueFaultAtMark(3, "wire a = @123456789;");
    }

    private static void wordOfTheGrammar() {
        Check.sentence("2 a NAME (a word of the grammar in its place is 1)");
        for (String word : WORDS_OF_THE_GRAMMAR) {
            Check.dueFaultAtMark(1, "wire @" + word);
            Check.dueFaultAtMark(1, "wire a = 1 + @" + word);
            Check.dueFaultAtMark(1, "reg r : 1 = 0; next @" + word);
            Check.dueFaultAtMark(2, "wire a = 1 + @" + word + "1");
            Check.dueFaultAtMark(2, "reg r : 1 = 0; next @" + word + "_");
            Check.dueFaultAtMark(1, Texts.wires(60) + "wire @" + word);
        }
        Check.dueFaultAtMark(1, "spec s = @reg;");
        Check.dueFaultAtMark(1, "spec s = @U;");
        Check.dueFaultAtMark(1, "wire a = 1 @unknown;");
        Check.dueFaultAtMark(1, "@unknown a = 1;");
        Check.dueFaultAtMark(1, "spec s = A [ {1} @u {1} ];");
    }

    private static void notKnown() {
        Check.sentence("that is not known");
        Check.dueFaultAtMark(2, "wire a = @b;");
        Check.dueFaultAtMark(2, "wire a = 1; wire b = @a1;");
        Check.dueFaultAtMark(2, "wire a1 = 1; wire b = @a;");
        Check.dueFaultAtMark(2, "wire a1 = 1; wire b = @A1;");
        Check.dueFaultAtMark(2, "wire a1 = 1; wire b = @a2;");
        Check.dueFaultAtMark(2, "wire a1 = 1; wire b = @b1;");
        Check.dueFaultAtMark(2, "spec a = @b;");
        Check.dueFaultAtMark(2, "spec a = {@b};");
        Check.dueFaultAtMark(2, "next @b = 1;");
        Check.dueFaultAtMark(2, "wire a = @b %");
        CircuitChecker x = Check.reader("wire a = 1;");
        Check.due("a NAME of an earlier text", Check.read(x, "wire b = a;"), -1);
        Check.due("is not known", x.fault(0), 2);
        Check.due("where it stands", x.fault(1), 9);
        Check.due("the same NAME in a new text", Check.read(x, "wire a = 2;"), 0);
    }

    private static void withinItsLine() {
        Check.sentence("(within its own line, too)");
        Check.dueFaultAtMark(2, "wire a = @a;");
        Check.dueFaultAtMark(2, "wire a = 1 + @a;");
        Check.dueFaultAtMark(2, "spec a = @a;");
        Check.dueFaultAtMark(2, "spec a = {1} && @a;");
        Check.dueFaultAtMark(2, "spec a = {@a};");
        Check.dueSound("reg a : 1 = 0; next a = a;");
        Check.dueSound("wire a = 1; wire b = a;");
    }

    private static void declaredAlready() {
        Check.sentence("declared already");
        String[] first = {"reg a : 1 = 0;", "input a : 1;", "wire a = 1;", "spec a = {1};"};
        for (String line : first) {
            for (String word : new String[] {"reg", "input", "wire", "spec"}) {
                Check.dueFaultAtMark(2, line + word + " @a");
                Check.dueFaultAtMark(2, line + word + " @a %");
                Check.dueFaultAtMark(2, line + "wire b = 1;" + word + " @a : 9 = 1;");
            }
        }
        CircuitChecker x = Check.reader("wire a = 1; wire @");
        Check.due("what a faulty text declared", Check.read(x, "wire a = 1;"), 0);
    }

    private static void asThe61st() {
        Check.sentence("(also as the 61st)");
        for (String name : new String[] {"w0", "w7", "w59"}) {
            Check.dueFaultAtMark(2, Texts.wires(60) + "wire @" + name + " = 1;");
            Check.dueFaultAtMark(2, Texts.wires(60) + "reg @" + name + " : 1 = 0;");
            Check.dueFaultAtMark(2, Texts.wires(60) + "spec @" + name + " = {1};");
        }
        Check.dueFaultAtMark(4, Texts.wires(60) + "wire @w60 = 1;");
    }

    private static void ofAnotherKind() {
        Check.sentence("of another kind");
        String all = "reg r : 1 = 0; input i : 1; wire w = 1; spec s = {1};";
        Check.dueSound(all + "wire a = r + i + w; spec b = s; next r = r;");
        Check.dueFaultAtMark(2, all + "wire a = @s;");
        Check.dueFaultAtMark(2, all + "wire a = r + @s;");
        Check.dueFaultAtMark(2, all + "wire a = r ? i : @s;");
        Check.dueFaultAtMark(2, all + "next r = @s;");
        Check.dueFaultAtMark(2, all + "spec b = {@s};");
        Check.dueFaultAtMark(2, all + "spec b = @r;");
        Check.dueFaultAtMark(2, all + "spec b = @i;");
        Check.dueFaultAtMark(2, all + "spec b = @w;");
        Check.dueFaultAtMark(2, all + "spec b = AX !@w;");
        Check.dueFaultAtMark(2, all + "spec b = A [ s U @w ];");
        Check.dueFaultAtMark(2, all + "spec b = s -> @w;");
        Check.dueFaultAtMark(2, all + "next @i = 1;");
        Check.dueFaultAtMark(2, all + "next @w = 1;");
        Check.dueFaultAtMark(2, all + "next @s = 1;");
    }

    private static void hasANext() {
        Check.sentence("a reg that has a next");
        Check.dueFaultAtMark(2, "reg a : 1 = 0; next a = a; next @a = a;");
        Check.dueFaultAtMark(2, "reg a : 1 = 0; next a = a; next @a %");
        Check.dueFaultAtMark(2, "reg a:1=0;reg b:1=0;next b=a;next a=a;next @b=a;");
        Check.dueSound("reg a:1=0;reg b:1=0;next b=a;next a=a;reg c:1=0;next c=a;");
        CircuitChecker x = Check.reader("reg a : 1 = 0; next a = a;");
        Check.due("the next of an earlier text", Check.read(x, "reg a : 1 = 0; next a = 1; spec s = {a};"), 1);
    }

    private static void outOfRange() {
        Check.sentence("3 a NUMBER out of range");
        Check.dueFaultAtMark(3, "reg a : @0 = 0;");
        Check.dueFaultAtMark(3, "reg a : @9 = 0;");
        Check.dueFaultAtMark(3, "reg a : 1 = @2;");
        Check.dueFaultAtMark(3, "reg a : 8 = @256;");
        Check.dueFaultAtMark(3, "input a : @0;");
        Check.dueFaultAtMark(3, "input a : @4;");
        Check.dueFaultAtMark(3, "wire a = @256;");
        Check.dueFaultAtMark(3, "spec a = {1 + @256};");
        Check.dueSound("reg a : 1 = 1; input b : 1; wire c = 255; wire d = 0;");
        Check.dueSound("reg a : 8 = 255; input b : 3;");
        for (int n : new int[] {257, 512, 65536, 16777216, 268435456, 999999999}) {
            Check.dueFaultAtMark(3, "wire a = @" + n + ";");
            Check.dueFaultAtMark(3, "reg a : @" + n + " = 0;");
            Check.dueFaultAtMark(3, "reg a : 8 = @" + n + ";");
            Check.dueFaultAtMark(3, "input a : @" + n + ";");
        }
    }

    private static void bitsBeyond() {
        Check.sentence("or bits beyond 8 (3) of all");
        Check.dueFaultAtMark(3, "reg a : 7 = 0; reg b : @2 = 0;");
        Check.dueFaultAtMark(3, "reg a : 8 = 0; wire w = 1; reg b : @1 = 0;");
        Check.dueFaultAtMark(3, "input a : 2; input b : @2;");
        Check.dueFaultAtMark(3, "input a : 3; reg r : 8 = 0; input b : @1;");
        Check.dueSound("reg a : 7 = 0; input b : 3; reg c : 1 = 1;");
    }

    private static void whereItStands() {
        Check.sentence("where it stands");
        Check.dueFaultAtMark(3, "reg a : 7 = 0; reg b : @2 = 9;");
        Check.dueFaultAtMark(3, "reg a : 7 = 0; reg b : @2 %");
        Check.dueFaultAtMark(3, "reg a : 3 = @8 %");
        Check.dueFaultAtMark(3, "input a : 3; input b : @1 %");
        Check.dueFaultAtMark(3, "wire a = 255 + @999 %");
        Check.dueFaultAtMark(3, "reg a : #9\n @9 = 0;");
    }

    private static void tooDeep() {
        Check.sentence("4 too deep (its first WORD, NUMBER or sign, whatever stands there)");
        String[] openings = {
            "wire v = " + Check.times(41, "("), "wire v = " + Check.times(41, "~"), "wire v = " + Check.times(41, "1?"),
            "wire v = " + Check.times(40, "1?1:") + "1?", "spec v = {" + Check.times(40, "("),
            "spec v = " + Check.times(41, "("), "spec v = " + Check.times(41, "!"), "spec v = " + Check.times(41, "AX "),
            "spec v = " + Check.times(41, "E["), "spec v = " + Check.times(40, "A[") + "{",
            "spec u = {1};spec v = " + Check.times(41, "u->"), "spec u = {1};spec v = " + Check.times(40, "A[u U ") + "A["};
        for (String opening : openings) {
            for (String what : WHATEVER) {
                Check.dueFaultAtMark(4, opening + " @" + what + " 1");
                Check.dueFaultAtMark(4, opening + "\n#\n@" + what);
            }
            Check.dueFaultAtMark(4, opening + "@");
            Check.dueFaultAtMark(4, opening + "  # the end stands there@");
        }
        Check.dueFaultAtMark(1, "wire v = " + Check.times(40, "(") + "@%");
        Check.dueFaultAtMark(2, "wire v = " + Check.times(40, "(") + "@unknown");
        Check.dueFaultAtMark(3, "wire v = " + Check.times(40, "(") + "@256");
        Check.dueFaultAtMark(1, "wire v = " + Check.times(40, "(") + "@");
        Check.dueFaultAtMark(1, "spec v = " + Check.times(40, "!") + "@%");
    }

    private static void the61st() {
        Check.sentence("the 61st NAME");
        Check.dueFaultAtMark(4, Texts.wires(60) + "wire @x");
        Check.dueFaultAtMark(4, Texts.wires(60) + "reg @x %");
        Check.dueFaultAtMark(4, Texts.wires(60) + "input @x : 9");
        Check.dueFaultAtMark(4, Texts.wires(60) + "spec @x = unknown");
        Check.dueFaultAtMark(1, Texts.wires(60) + "wire @1");
        Check.dueFaultAtMark(1, Texts.wires(60) + "wire @" + LONG_WORD);
        Check.dueFaultAtMark(1, Texts.wires(60) + "wire@");
        Check.dueFaultAtMark(2, Texts.wires(60) + "next @x");
    }

    private static void the31st() {
        Check.sentence("the 31st spec's word");
        Check.dueFaultAtMark(4, Texts.specs(30) + "@spec x = {1};");
        Check.dueFaultAtMark(4, Texts.specs(30) + "@spec s0 = {1};");
        Check.dueFaultAtMark(4, Texts.specs(30) + "@spec");
        Check.dueFaultAtMark(4, Texts.specs(30) + "@spec %");
        Check.dueFaultAtMark(4, Texts.specs(30) + Texts.wires(30) + "@spec x");
        Check.dueFaultAtMark(4, Texts.specs(30) + Texts.wires(30) + "wire @x");
        Check.dueFaultAtMark(1, Texts.specs(30) + "@specs");
    }

    private static void the4001st() {
        Check.sentence("the 4,001st WORD, NUMBER or sign (whatever it is)");
        String whole = Texts.tokens(4000);
        String open = Texts.openTokens(4000);
        for (String what : WHATEVER) {
            Check.dueFaultAtMark(4, whole + " @" + what);
        }
        for (String what : new String[] {";", "&&", "+", "reg", "unknown", "256", "%", LONG_WORD, "1234567890"}) {
            Check.dueFaultAtMark(4, open + "#;\n @" + what + " ;");
            Check.dueFaultAtMark(4, Texts.tokens(3997) + "wire x = @" + what);
            Check.dueFaultAtMark(4, Texts.tokens(3999) + "wire @" + what);
            Check.dueFaultAtMark(4, Texts.tokens(3997) + "reg x : @" + what);
        }
        Check.dueFaultAtMark(1, open + "@");
        Check.dueFaultAtMark(1, open + " #@");
        Check.dueFaultAtMark(1, Texts.tokens(3999) + "@% ;");
        Check.dueFaultAtMark(1, Texts.tokens(3999) + "@; ;");
        Check.dueFaultAtMark(2, Texts.openTokens(3998) + "&&@unknown;");
        Check.dueFaultAtMark(3, Texts.tokens(3996) + "wire x = @256;");
        Check.dueFaultAtMark(1, Texts.tokens(3999) + "wire@");
    }

    private static void costs() {
        Check.sentence("COSTS: the sign (-, !, ?, .., {, the word next) with which they are passed.");
        String full = Texts.costing(3000);
        Check.dueFaultAtMark(4, full + "wire v = @-1;");
        Check.dueFaultAtMark(4, full + "wire v = 1 @- 1;");
        Check.dueFaultAtMark(4, full + "wire v = ~@!1;");
        Check.dueFaultAtMark(4, full + "wire v = (1 @? 1 : 1);");
        Check.dueFaultAtMark(4, full + "spec v = !@{1};");
        Check.dueFaultAtMark(4, full + "reg v : 1 = 0; @next v = 1;");
        Check.dueFaultAtMark(4, full + "@next unknown = 1;");
        Check.dueFaultAtMark(4, full + "@next");
        Check.dueFaultAtMark(4, "wire v = 1*1*1*1 + 1 + 1 + 1 @== 1 == 1 & 1;");
        Check.dueFaultAtMark(4, Texts.costing(2992) + "spec u = {1}; spec v = u && @{1};");
        Check.dueFaultAtMark(1, full + "wire v = @+;");
        Check.dueFaultAtMark(1, full + "wire v = 1 @-> 1;");
    }
}
