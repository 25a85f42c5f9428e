import java.util.ArrayList;
import java.util.List;

/** The document's paragraph on the TAPE and the TEXT, and its grammar, sentence by sentence. */
public final class TextTest {
    private static final String[] WORDS_OF_THE_GRAMMAR = {
        "reg", "input", "wire", "next", "spec", "A", "E", "U", "AX", "EX", "AF", "EF", "AG", "EG"};
    private static final String SIGN_BYTES = ";:=?()[]{}<>+-*&|^~!";
    private static final String[][] LEVELS = {
        {"||"}, {"&&"}, {"|"}, {"^"}, {"&"}, {"==", "!="}, {"<", "<=", ">", ">="}, {"<<", ">>"}, {"+", "-"}, {"*"}};

    public static void main(String[] args) {
        tape();
        words();
        lengthOfWords();
        numbers();
        signs();
        bytesThatAreNone();
        longest();
        partedSigns();
        blanks();
        remarks();
        names();
        lines();
        halfLines();
        alienLines();
        reg();
        input();
        next();
        declaredOnce();
        declaredBefore();
        choices();
        tightness();
        fromLeftToRight();
        unary();
        operands();
        formulas();
        tightnessOfFormulas();
        singles();
        Check.finish();
    }

    private static boolean isLetter(int b) {
        return b >= 'a' && b <= 'z' || b >= 'A' && b <= 'Z';
    }

    private static boolean isDigit(int b) {
        return b >= '0' && b <= '9';
    }

    private static boolean isBlank(int b) {
        return b == 32 || b == 9 || b == 10 || b == 13;
    }

    private static void tape() {
        Check.sentence("THE TAPE: bytes gathered by feed");
        CircuitChecker x = new CircuitChecker();
        x.feed(0x72656720, 0x613a313d, 0x303b7265, 0x6720623a, 0x323d333b);
        x.feed(0x77697265, 0x20773d61, 0x3b202020, 0x20202020, 0x20202025);
        Check.due("the last byte is a %", x.read(), -1);
        Check.due("its place", x.fault(1), 39);
        x.feed(0x72656720, 0x613a313d, 0x303b7265, 0x6720623a, 0x323d333b);
        x.feed(0x77697265, 0x20773d62, 0x3b202020, 0x20202020, 0x20202025);
        x.end(39);
        Check.due("without it", x.read(), 0);
        Check.due("NAMES", x.count(1), 3);
        Check.due("the wire", x.value(2, 0), 3);
    }

    private static void words() {
        Check.sentence("WORDS (letters, digits, _, the first a letter");
        for (int b = 0; b < 256; b++) {
            String first = "wire " + (char) b + " = 1;";
            String later = "wire a" + (char) b + "z = 1;";
            if (b == '#') {
                Check.dueFault(first, 1, first.length());
                Check.dueFault(later, 1, later.length());
            } else if (isBlank(b)) {
                Check.dueFault(first, 1, 7);
                Check.dueFault(later, 1, 7);
            } else {
                dueSoundIf(isLetter(b) && b != 'A' && b != 'E' && b != 'U', first, 5);
            }
            if (b != '#' && b != '=' && !isBlank(b)) {
                dueSoundIf(isLetter(b) || isDigit(b) || b == '_', later, 6);
            }
        }
        Check.dueSound("reg azAZ09_:1=0;wire ZAza_90=azAZ09_;wire z=ZAza_90;wire Z=z;wire Zz=Z;wire zZ=Zz;");
        Check.dueSound("wire a__=1;wire a_=1;wire a=1;wire a0=a;wire a00=a0;wire aA=a_;");
    }

    private static void dueSoundIf(boolean sound, String text, int place) {
        if (sound) {
            Check.dueSound(text);
        } else {
            Check.dueFault(text, 1, place);
        }
    }

    private static void lengthOfWords() {
        Check.sentence("at most 31 signs)");
        String thirty = Check.times(30, "q");
        Check.dueSound("wire " + thirty + "a = 1; wire y = " + thirty + "a;");
        Check.dueSound("wire " + thirty + "a = 1; wire " + thirty + "b = " + thirty + "a; wire " + thirty + " = 1;");
        Check.dueFaultAtMark(2, "wire " + thirty + "a = 1; wire y = @" + thirty + "b;");
        Check.dueFaultAtMark(1, "wire @" + thirty + "ab = 1;");
        Check.dueFaultAtMark(1, "wire " + thirty + "a = 1; wire y = @" + thirty + "ab;");
        Check.dueFaultAtMark(1, "wire x = @" + thirty + "a_;");
        Check.dueFaultAtMark(1, "wire x = @" + thirty + "a0;");
        Check.dueFaultAtMark(1, "wire @" + Check.times(64, "q") + " = 1;");
        Check.dueFaultAtMark(1, "wire @" + Check.times(300, "q") + " = 1;");
        Check.dueFaultAtMark(1, "@" + Check.times(32, "r"));
        Check.dueSound("wire q = 1;");
    }

    private static void numbers() {
        Check.sentence("NUMBERS (digits; at most 9)");
        Check.dueSound("wire x = 0;");
        Check.dueSound("wire x = 000000255;");
        Check.dueSound("reg a : 000000008 = 000000255; input i : 000000003;");
        Check.dueSound("wire x = 000000000;");
        Check.due("000000079", Check.reader("wire x = 000000079;").value(0, 0), 79);
        Check.due("0123", Check.reader("wire x = 0123;").value(0, 0), 123);
        Check.dueFaultAtMark(1, "wire x = @0000000255;");
        Check.dueFaultAtMark(1, "wire x = @0000000000;");
        Check.dueFaultAtMark(1, "wire x = @1000000000;");
        Check.dueFaultAtMark(1, "wire x = @4294967297;");
        Check.dueFaultAtMark(1, "wire x = @18446744073709551617;");
        Check.dueFaultAtMark(1, "reg a : @0000000001 = 0;");
        Check.dueFaultAtMark(1, "reg a : 1 = @0000000001;");
        Check.dueFaultAtMark(1, "input a : @0000000001;");
        Check.dueFaultAtMark(1, "wire x = @" + Check.times(300, "0") + ";");
        Check.dueFaultAtMark(3, "wire x = @999999999;");
        Check.dueFaultAtMark(3, "wire x = @000000256;");
    }

    private static void signs() {
        Check.sentence("and the signs ; : = ? ( ) [ ] { } == != < <= > >= << >> + - * & && | || ^ ~ ! ->");
        for (String[] level : LEVELS) {
            for (String sign : level) {
                Check.dueSound("wire x = 7 " + sign + " 2;");
                Check.dueSound("wire x=7" + sign + "2;");
            }
        }
        for (String sign : new String[] {"-", "~", "!"}) {
            Check.dueSound("wire x=" + sign + "2;");
        }
        Check.dueSound("reg a:1=0;input i:1;wire x=(1)?2:3;next a=x;spec s={a};spec t=A[s U s];spec u=s->t;");
        Check.dueSound("spec s={1}&&{1}||{1};spec t=E[s U!s];");
        Check.dueSound("wire x = 1 - -1;wire y=1--1;wire z=1<-1;wire v=!!1;wire w=1!=!1;");
    }

    private static void bytesThatAreNone() {
        Check.sentence("a byte that is none");
        for (int b = 0; b < 256; b++) {
            if (isBlank(b) || b == '#' || isLetter(b) || isDigit(b) || SIGN_BYTES.indexOf(b) >= 0) {
                continue;
            }
            Check.dueFault((char) b + "reg a : 1 = 0;", 1, 0);
            Check.dueFault("reg a : 1 = 0;" + (char) b, 1, 14);
            Check.dueFault("reg a : 1" + (char) b + "= 0;", 1, 9);
            Check.dueFault("wire w = 1 " + (char) b + " 1;", 1, 11);
            Check.dueFault("wire w = " + (char) b + "1;", 1, 9);
            Check.dueSound("reg a : 1 = 0; #" + (char) b);
        }
    }

    private static void longest() {
        Check.sentence("the longest that stands there: 12ab is a NUMBER and a WORD, <<= is << and =)");
        Check.dueFaultAtMark(1, "wire x = 12@ab;");
        Check.dueFaultAtMark(1, "wire x = 1@x1;");
        Check.dueFaultAtMark(1, "wire x = 000000255@a;");
        Check.dueFaultAtMark(1, "wire @12ab = 1;");
        Check.dueFaultAtMark(1, "wire x = 1 <<@= 2;");
        Check.dueFaultAtMark(1, "wire x = 1 >>@= 2;");
        Check.dueFaultAtMark(1, "wire x = 1 <=@= 2;");
        Check.dueFaultAtMark(1, "wire x = 1 >=@= 2;");
        Check.dueFaultAtMark(1, "wire x = 1 ==@= 2;");
        Check.dueFaultAtMark(1, "wire x = 1 !=@= 2;");
        Check.dueFaultAtMark(1, "wire x = 1 <<@< 2;");
        Check.dueFaultAtMark(1, "wire x = 1 >>@> 2;");
        Check.dueFaultAtMark(1, "wire x = 1 &&@& 2;");
        Check.dueFaultAtMark(1, "wire x = 1 ||@| 2;");
        Check.dueFaultAtMark(1, "wire x = 1 <@> 2;");
        Check.dueFaultAtMark(1, "wire x = 1 <@>= 2;");
        Check.dueFaultAtMark(1, "wire x = 1 <@-> 2;");
        Check.dueFaultAtMark(1, "wire x = 1 -@-> 2;");
        Check.dueFaultAtMark(1, "wire x = 1 @-> 2;");
        Check.dueFaultAtMark(1, "wire x = 1 @->> 2;");
        Check.dueFaultAtMark(1, "wire x = @!= 2;");
        Check.dueFaultAtMark(1, "wire x = @== 2;");
        Check.dueFaultAtMark(1, "wire x @== 2;");
        Check.dueFaultAtMark(1, "wire x =@< 2;");
        Check.dueFaultAtMark(1, "wire x = 1 @=> 2;");
        Check.dueFaultAtMark(1, "reg a : 1@==0;");
        Check.dueFaultAtMark(1, "spec s = {1}@-{1};");
        Check.dueFaultAtMark(1, "spec s = {1} &&@& {1};");
        Check.dueFaultAtMark(1, "spec s = {1} ->@> {1};");
        Check.dueFaultAtMark(2, "wire x = @AXE;");
        Check.dueFaultAtMark(2, "spec s = @AXE{1};");
        Check.dueFaultAtMark(1, "@regs a : 1 = 0;");
        Check.dueFaultAtMark(1, "@reg1 : 1 = 0;");
        Check.dueFaultAtMark(1, "@wirex = 1;");
        Check.dueSound("wire x=!1;wire y=-1;wire z=~1;wire v=1&-1;wire w=1&&-1;wire u=1>-1;wire t=1|!0;");
        Check.dueSound("spec s={1};spec t=s->s->s&&s||!s;spec u=AX{1};spec v=A[AX!s U!AG{1}];");
    }

    private static void partedSigns() {
        Check.sentence("only part them");
        Check.dueFaultAtMark(1, "wire x = 1 @= = 1;");
        Check.dueFaultAtMark(1, "wire x = 1 < @= 1;");
        Check.dueFaultAtMark(1, "wire x = 1 > @= 1;");
        Check.dueFaultAtMark(1, "wire x = 1 < @< 1;");
        Check.dueFaultAtMark(1, "wire x = 1 > @> 1;");
        Check.dueFaultAtMark(1, "wire x = 1 & @& 1;");
        Check.dueFaultAtMark(1, "wire x = 1 | @| 1;");
        Check.dueFaultAtMark(1, "wire x = 1 @! = 1;");
        Check.dueFaultAtMark(1, "wire x = 1 <#\n@< 1;");
        Check.dueFaultAtMark(1, "spec s = {1} @- > {1};");
        Check.dueFaultAtMark(1, "spec s = {1} @& & {1};");
        Check.dueFaultAtMark(1, "wire x = 1 @2;");
        Check.dueFaultAtMark(1, "wire x = 1#\n@2;");
        Check.dueFaultAtMark(1, "wire x = 1 @b;");
        Check.dueFaultAtMark(1, "wire a @b = 1;");
        Check.dueFaultAtMark(1, "wire a#\n@b = 1;");
        Check.dueFaultAtMark(1, "@re g a : 1 = 0;");
        Check.dueFaultAtMark(1, "@re#\ng a : 1 = 0;");
        Check.dueFaultAtMark(1, "spec s = A @X {1};");
        Check.dueSound("reg a:1=0;wire b=a;");
        Check.dueSound(" reg  a\t:\n1\r=\r\n0 ; wire b = a ;");
        Check.due("17", Check.reader("wire a=1\t+\n1\r<<#<<\n4;").value(0, 0), 32);
    }

    private static void blanks() {
        Check.sentence("blanks (bytes 32, 9, 10, 13)");
        Check.dueSound("");
        for (int b = 0; b < 256; b++) {
            String before = (char) b + "reg a:1=0;";
            String between = "reg" + (char) b + "a:1=0;";
            if (isBlank(b)) {
                Check.dueSound("" + (char) b);
                Check.dueSound(before);
                Check.dueSound(between);
                Check.dueSound("reg a:1=0;" + (char) b);
            } else if (b == '#') {
                Check.dueSound(before);
                Check.dueFault(between, 1, between.length());
            } else if (!isLetter(b) && !isDigit(b) && b != '_') {
                Check.dueFault(before, 1, 0);
                Check.dueFault(between, 1, 3);
            } else {
                Check.dueFault(before, 1, 0);
                Check.dueFault(between, 1, 0);
            }
        }
        Check.dueSound(Check.times(200, " \t\r\n"));
    }

    private static void remarks() {
        Check.sentence("what stands from # to before the next byte 10 (or the end)");
        Check.dueSound("#");
        Check.dueSound("#\n");
        Check.dueSound("##\n##");
        Check.dueSound("# only a remark");
        for (int b = 0; b < 256; b++) {
            Check.dueSound("#" + (char) b);
            String text = "#" + (char) b + ";\n";
            if (b == 10) {
                Check.dueFault(text, 1, 2);
            } else {
                Check.dueSound(text);
            }
        }
        Check.due("a line behind a remark", Check.reader("reg a:1=0;#reg b:1=0;\nreg c:1=0;").count(1), 2);
        Check.due("a line behind an empty remark", Check.reader("reg a:1=0;#\nreg c:1=0;").count(1), 2);
        Check.dueSound("reg#x\na#;\n:\t1\r=\n0;#");
        Check.dueFaultAtMark(1, "reg a:1=0 # ;@");
        Check.dueFaultAtMark(1, "reg a:1=0#;@");
        Check.dueFaultAtMark(1, "# remark\r;\n @;");
        Check.dueFaultAtMark(1, "#\n#\n@;");
    }

    private static void names() {
        Check.sentence("NAMES: WORDS that are none of reg input wire next spec A E U AX EX AF EF AG EG");
        for (String word : WORDS_OF_THE_GRAMMAR) {
            Check.dueFaultAtMark(1, "reg @" + word + " : 1 = 0;");
            Check.dueFaultAtMark(1, "input @" + word + " : 1;");
            Check.dueFaultAtMark(1, "wire @" + word + " = 1;");
            Check.dueFaultAtMark(1, "spec @" + word + " = {1};");
            Check.dueFaultAtMark(1, "reg a : 1 = 0; next @" + word + " = 0;");
            Check.dueFaultAtMark(1, "wire w = @" + word + ";");
            Check.dueFaultAtMark(1, "wire w = 1 + @" + word + ";");
            Check.dueFaultAtMark(1, "spec s = {@" + word + "};");
            Check.dueSound("wire " + word + "1 = 1; wire " + word + "_ = " + word + "1; wire " + word + "x = 1;");
            Check.dueSound("wire x" + word + " = 1; wire v = x" + word + ";");
            String other = word.equals(word.toLowerCase()) ? word.toUpperCase() : word.toLowerCase();
            Check.dueSound("wire " + other + " = 1; wire v = " + other + ";");
            if (word.length() > 1) {
                String mixed = word.substring(0, 1).toUpperCase() + word.substring(1).toLowerCase();
                Check.dueSound("wire " + mixed + " = 1; wire v = " + mixed + ";");
                Check.dueSound("wire " + word.substring(1).toLowerCase() + " = 1;");
            }
        }
        for (String word : new String[] {"X", "F", "G", "UX", "AA", "EE", "AU", "EU", "XA", "AE", "UE", "true", "re"}) {
            Check.dueSound("wire " + word + " = 1; wire v = " + word + ";");
        }
    }

    private static void lines() {
        Check.sentence("TEXT: LINES, none or more");
        Check.due("specs of no LINES", Check.reader("").count(0), 0);
        Check.dueSound("");
        Check.dueSound("reg a:1=0;");
        Check.dueSound("input a:1;");
        Check.dueSound("wire a=1;");
        Check.dueSound("spec a={1};");
        Check.dueSound("reg a:1=0;next a=1;");
        Check.dueSound("spec a={1};wire b=1;input c:1;reg d:1=0;next d=b;wire e=c;spec f=a;reg g:1=1;input h:2;");
        Check.dueFaultAtMark(1, "@;");
        Check.dueFaultAtMark(1, "reg a:1=0;@;");
        Check.dueFaultAtMark(1, "@a");
        Check.dueFaultAtMark(1, "@5");
        Check.dueFaultAtMark(1, "reg a:1=0; @a");
        Check.dueFaultAtMark(1, "reg a:1=0 @reg b:1=0;");
    }

    /** LINES with a blank between all their WORDS, NUMBERS and signs. */
    private static final String[] SOUND_LINES = {
        "reg b : 1 = 0 ;", "input b : 1 ;", "wire b = 1 + a ;", "wire b = ( a ) ? ~ 2 : - ! 3 ;", "next a = a * ( 1 ) ;",
        "spec b = t ;", "spec b = { a + 1 } ;", "spec b = AX ! ( t && t || t ) -> t ;", "spec b = A [ t U t ] ;",
        "spec b = E [ { a } U EG t ] ;"};
    private static final String HEAD = "reg a : 1 = 0; spec t = {1}; ";

    private static void halfLines() {
        Check.sentence("1 a WORD, NUMBER or sign that can't stand there (the end, too");
        for (String line : SOUND_LINES) {
            Check.dueSound(HEAD + line);
            for (int cut = line.indexOf(' '); cut >= 0; cut = line.indexOf(' ', cut + 1)) {
                String half = HEAD + line.substring(0, cut);
                Check.dueFault(half, 1, half.length());
                Check.dueFault(half + "  # ;\n", 1, half.length() + 6);
            }
        }
    }

    private static void alienLines() {
        Check.sentence("1 a WORD, NUMBER or sign that can't stand there");
        String[] aliens = {"%", ".", "reg", "next", "1234567890", "qwertyuiopasdfghjklzxcvbnmqwerty"};
        for (String line : SOUND_LINES) {
            String[] parts = line.split(" ");
            int place = HEAD.length();
            for (int n = 0; n < parts.length; n++) {
                for (String alien : aliens) {
                    String rest = line.substring(place - HEAD.length());
                    String text = HEAD + line.substring(0, place - HEAD.length()) + alien;
                    if (n > 0 || alien.length() != 3 && alien.length() != 4) {
                        Check.dueFault(text + " " + rest, 1, place);
                        Check.dueFault(text, 1, place);
                    }
                }
                place += parts[n].length() + 1;
            }
        }
        moreAliens();
    }

    private static void moreAliens() {
        Check.dueFaultAtMark(1, "reg a @= 1;");
        Check.dueFaultAtMark(1, "reg a : @b = 0;");
        Check.dueFaultAtMark(1, "reg a : 1 @;");
        Check.dueFaultAtMark(1, "reg a : 1 = @-1;");
        Check.dueFaultAtMark(1, "reg a : 1 = 0 @:");
        Check.dueFaultAtMark(1, "reg @1 : 1 = 0;");
        Check.dueFaultAtMark(1, "reg a : 1 = @(0);");
        Check.dueFaultAtMark(1, "input a : 1 @= 0;");
        Check.dueFaultAtMark(1, "wire a @: 1;");
        Check.dueFaultAtMark(1, "wire a = @;");
        Check.dueFaultAtMark(1, "wire a = 1 @~ 2;");
        Check.dueFaultAtMark(1, "wire a = 1 @! 2;");
        Check.dueFaultAtMark(1, "wire a = 1 + @* 2;");
        Check.dueFaultAtMark(1, "wire a = 1 + @;");
        Check.dueFaultAtMark(1, "wire a = (1@;");
        Check.dueFaultAtMark(1, "wire a = (@);");
        Check.dueFaultAtMark(1, "wire a = 1@);");
        Check.dueFaultAtMark(1, "wire a = 1 ? 2 @;");
        Check.dueFaultAtMark(1, "wire a = 1 @: 2;");
        Check.dueFaultAtMark(1, "wire a = 1 ? @: 2;");
        Check.dueFaultAtMark(1, "wire a = 1 ? 2 : 3 @: 4;");
        Check.dueFaultAtMark(1, "wire a = @{1};");
        Check.dueFaultAtMark(1, "wire a = @[1];");
        Check.dueFaultAtMark(1, "wire a = (1@];");
        Check.dueFaultAtMark(1, "spec a = @1;");
        Check.dueFaultAtMark(1, "spec a = (@1);");
        Check.dueFaultAtMark(1, "spec a = {1@;");
        Check.dueFaultAtMark(1, "spec a = {1@);");
        Check.dueFaultAtMark(1, "spec a = {@};");
        Check.dueFaultAtMark(1, "spec a = {@{1}};");
        Check.dueFaultAtMark(1, "spec a = {1 @-> 1};");
        Check.dueFaultAtMark(1, "spec a = {1} @& {1};");
        Check.dueFaultAtMark(1, "spec a = {1} @| {1};");
        Check.dueFaultAtMark(1, "spec a = {1} @== {1};");
        Check.dueFaultAtMark(1, "spec a = {1} @? {1} : {1};");
        Check.dueFaultAtMark(1, "spec a = {1} @{1};");
        Check.dueFaultAtMark(1, "spec a = @~{1};");
        Check.dueFaultAtMark(1, "spec a = A @{1};");
        Check.dueFaultAtMark(1, "spec a = E @( {1} U {1} );");
        Check.dueFaultAtMark(1, "spec a = @[ {1} U {1} ];");
        Check.dueFaultAtMark(1, "spec a = A [ {1} @];");
        Check.dueFaultAtMark(1, "spec a = A [ {1} @V {1} ];");
        Check.dueFaultAtMark(1, "spec a = A [ {1} U {1} @U {1} ];");
        Check.dueFaultAtMark(1, "spec a = E [ {1} U {1} @);");
        Check.dueFaultAtMark(1, "spec a = {1} @U {1};");
        Check.dueFaultAtMark(1, "spec a = AX @;");
        Check.dueFaultAtMark(1, "spec a = AX @-> {1};");
        Check.dueFaultAtMark(1, "spec a = {1} -> @-> {1};");
        Check.dueFaultAtMark(1, "spec a = {1} || @|| {1};");
        Check.dueFaultAtMark(1, "spec a = {1} && @;");
        Check.dueFaultAtMark(1, "spec a = @-{1};");
        Check.dueFaultAtMark(1, "next @1 = 1;");
    }

    private static void reg() {
        Check.sentence("reg NAME : NUMBER = NUMBER ; (bits, 1 .. 8, and the value at first, which has not more)");
        Check.dueFaultAtMark(3, "reg a : @0 = 0;");
        Check.dueFaultAtMark(3, "reg a : @9 = 0;");
        Check.dueFaultAtMark(3, "reg a : @10 = 0;");
        Check.dueFaultAtMark(3, "reg a : @999999999 = 0;");
        for (int bits = 1; bits <= 8; bits++) {
            int most = (1 << bits) - 1;
            CircuitChecker least = Check.reader("reg a : " + bits + " = 0;");
            Check.due("fault of 0 in " + bits, least.fault(0), 0);
            Check.due("STATE of 0 in " + bits, least.count(6), 0);
            CircuitChecker x = Check.reader("reg a : " + bits + " = " + most + ";");
            Check.due("fault of " + most + " in " + bits, x.fault(0), 0);
            Check.due("STATE of " + most + " in " + bits, x.count(6), most);
            Check.due("bits of " + bits, x.count(2), bits);
            Check.due("the last STATE of " + bits, x.go(most), most);
            Check.dueThrow("a STATE too far of " + bits, IllegalArgumentException.class, () -> x.go(most + 1));
            Check.dueFaultAtMark(3, "reg a : " + bits + " = @" + (most + 1) + ";");
            Check.dueFaultAtMark(3, "reg a : " + bits + " = @999999999;");
        }
    }

    private static void input() {
        Check.sentence("input NAME : NUMBER ; (bits, 1 .. 3)");
        Check.dueFaultAtMark(3, "input a : @0;");
        Check.dueFaultAtMark(3, "input a : @4;");
        Check.dueFaultAtMark(3, "input a : @8;");
        Check.dueFaultAtMark(3, "input a : @999999999;");
        for (int bits = 1; bits <= 3; bits++) {
            int most = (1 << bits) - 1;
            CircuitChecker x = Check.reader("input a : " + bits + ";");
            Check.due("fault of " + bits, x.fault(0), 0);
            Check.due("bits of " + bits, x.count(3), bits);
            Check.due("most of " + bits, x.value(0, most), most);
            Check.dueThrow("more of " + bits, IllegalArgumentException.class, () -> x.value(0, most + 1));
        }
    }

    private static void next() {
        Check.sentence("next NAME = EXPRESSION ; (NAME a reg that has none yet)");
        Check.dueSound("reg a : 1 = 0; next a = 1;");
        Check.dueSound("reg a : 1 = 0; reg b : 1 = 0; next b = 1; next a = 1;");
        Check.dueFaultAtMark(2, "reg a : 1 = 0; next a = 1; next @a = 1;");
        Check.dueFaultAtMark(2, "reg a : 1 = 0; next a = 1; reg b : 1 = 0; next b = a; next @a = 0;");
        Check.dueFaultAtMark(2, "input a : 1; next @a = 1;");
        Check.dueFaultAtMark(2, "wire a = 1; next @a = 1;");
        Check.dueFaultAtMark(2, "spec a = {1}; next @a = 1;");
        Check.dueFaultAtMark(2, "reg a : 1 = 0; next @b = 1;");
    }

    private static void declaredOnce() {
        Check.sentence("NAMES are declared once");
        String[] first = {"reg a : 1 = 0;", "input a : 1;", "wire a = 1;", "spec a = {1};"};
        String[] again = {"reg @a : 1 = 0;", "input @a : 1;", "wire @a = 1;", "spec @a = {1};"};
        for (String one : first) {
            for (String two : again) {
                Check.dueFaultAtMark(2, one + two);
                Check.dueFaultAtMark(2, one + "wire b = 1;" + two);
                Check.dueFaultAtMark(2, "wire b = 1;" + one + two.substring(0, two.indexOf('@') + 2));
                Check.dueSound(one + two.replace("@a", "A1"));
                Check.dueSound(one + two.replace("@a", "aa"));
            }
        }
    }

    private static void declaredBefore() {
        Check.sentence("before they are used (what a next stands for, too)");
        Check.dueFaultAtMark(2, "wire b = @a; wire a = 1;");
        Check.dueFaultAtMark(2, "wire b = @a; reg a : 1 = 0;");
        Check.dueFaultAtMark(2, "wire b = @a; input a : 1;");
        Check.dueFaultAtMark(2, "spec b = @a; spec a = {1};");
        Check.dueFaultAtMark(2, "spec b = {@a}; wire a = 1;");
        Check.dueFaultAtMark(2, "next @a = 1; reg a : 1 = 0;");
        Check.dueFaultAtMark(2, "reg a : 1 = 0; next a = @b; reg b : 1 = 0;");
        Check.dueFaultAtMark(2, "wire w = 1 ? 1 : @b; wire b = 1;");
        Check.dueSound("wire a = 1; wire b = a; reg r : 1 = 0; next r = r; spec s = {r}; spec t = s;");
    }

    private static int valueOf(String expression) {
        CircuitChecker x = Check.reader("wire w = " + expression + ";");
        return x.fault(0) == 0 ? x.value(0, 0) : -1;
    }

    private static void dueValue(String expression, int want) {
        Check.due(expression, valueOf(expression), want);
    }

    private static void choices() {
        Check.sentence("EXPRESSION: C, perhaps ? EXPRESSION : EXPRESSION.");
        dueValue("1 ? 2 : 3 ? 4 : 5", 2);
        dueValue("0 ? 2 : 3 ? 4 : 5", 4);
        dueValue("0 ? 2 : 0 ? 4 : 5", 5);
        dueValue("1 ? 0 ? 4 : 5 : 6", 5);
        dueValue("1 ? 1 ? 4 : 5 : 6", 4);
        dueValue("0 ? 1 ? 4 : 5 : 6", 6);
        dueValue("(1 ? 0 : 3) ? 4 : 5", 5);
        dueValue("0 || 1 ? 7 : 8", 7);
        dueValue("1 ? 7 : 8 || 9", 7);
        dueValue("0 ? 7 : 8 || 9", 1);
        dueValue("1 ? 7 || 9 : 8", 1);
        dueValue("1 + 1 ? 2 + 3 : 4 + 5", 5);
        dueValue("2 * (0 ? 3 : 4)", 8);
        dueValue("2 * 0 ? 3 : 4", 4);
        Check.dueFaultAtMark(1, "wire w = 1 ? 2 : 3 @: 4;");
        Check.dueFaultAtMark(1, "wire w = 1 ? 2 ? 3 : 4 @;");
    }

    private static int levelOf(String sign) {
        for (int n = 0; n < LEVELS.length; n++) {
            for (String s : LEVELS[n]) {
                if (s.equals(sign)) {
                    return n;
                }
            }
        }
        throw new AssertionError(sign);
    }

    private static List<String> allSigns() {
        List<String> result = new ArrayList<>();
        for (String[] level : LEVELS) {
            for (String sign : level) {
                result.add(sign);
            }
        }
        return result;
    }

    /** Three NUMBERS for which it matters which of two signs is worked out first, if there are any. */
    private static int[] telling(String one, String two) {
        int[] some = {1, 2, 0, 3, 5, 8, 6, 255, 128, 4};
        for (int a : some) {
            for (int b : some) {
                for (int c : some) {
                    if (leftFirst(one, two, a, b, c) != rightFirst(one, two, a, b, c)) {
                        return new int[] {a, b, c};
                    }
                }
            }
        }
        return new int[] {1, 2, 3};
    }

    private static int leftFirst(String one, String two, int a, int b, int c) {
        return Model.apply(two, Model.apply(one, a, b), c);
    }

    private static int rightFirst(String one, String two, int a, int b, int c) {
        return Model.apply(one, a, Model.apply(two, b, c));
    }

    private static void tightness() {
        Check.sentence("from the loosest to the tightest, ||; &&; |; ^; &; == !=; < <= > >=; << >>; + -; *");
        for (String one : allSigns()) {
            for (String two : allSigns()) {
                if (levelOf(one) != levelOf(two)) {
                    int[] t = telling(one, two);
                    int want = levelOf(one) > levelOf(two) ? leftFirst(one, two, t[0], t[1], t[2])
                        : rightFirst(one, two, t[0], t[1], t[2]);
                    dueValue(t[0] + " " + one + " " + t[1] + " " + two + " " + t[2], want);
                }
            }
        }
        dueValue("1 || 0 && 0 | 6 ^ 5 & 3 == 3 < 9 << 1 + 2 * 3", 1);
        dueValue("0 || 0 && 0 | 6 ^ 5 & 3 == 3 < 9 << 1 + 2 * 3", 0);
    }

    private static void fromLeftToRight() {
        Check.sentence("each from left to right");
        for (String one : allSigns()) {
            for (String two : allSigns()) {
                if (levelOf(one) == levelOf(two)) {
                    int[] t = telling(one, two);
                    dueValue(t[0] + " " + one + " " + t[1] + " " + two + " " + t[2], leftFirst(one, two, t[0], t[1], t[2]));
                }
            }
        }
        dueValue("10 - 3 - 2 + 1 - 1", 5);
        dueValue("3 > 2 > 1", 0);
        dueValue("128 >> 1 >> 1 << 2", 128);
    }

    private static void unary() {
        Check.sentence("UNARY: - ~ ! UNARY, or ( EXPRESSION )");
        dueValue("-1 + 2", 1);
        dueValue("-2 * 3", 250);
        dueValue("~0 >> 4", 15);
        dueValue("~1 * 2", 252);
        dueValue("!2 + 1", 1);
        dueValue("!0 * 5", 5);
        dueValue("!(2 + 254)", 1);
        dueValue("-~!0", 2);
        dueValue("--5", 5);
        dueValue("- - 5", 5);
        dueValue("~~5", 5);
        dueValue("!!5", 1);
        dueValue("3 - -2", 5);
        dueValue("3 --2", 5);
        dueValue("3 & ~1", 2);
        dueValue("3 + !0", 4);
        dueValue("(((7)))", 7);
        dueValue("(1 ? 2 : 3) + 4", 6);
        dueValue("2 * (3 + 4)", 14);
        dueValue("(2 || 0) + 4", 5);
    }

    private static void operands() {
        Check.sentence("a NUMBER (at most 255), a NAME of a reg, input, wire.");
        dueValue("255", 255);
        dueValue("0", 0);
        Check.dueFaultAtMark(3, "wire w = @256;");
        Check.dueFaultAtMark(3, "wire w = 255 + @256;");
        Check.dueFaultAtMark(3, "wire w = ~@257;");
        Check.dueFaultAtMark(3, "wire w = 1 ? @256 : 1;");
        Check.dueFaultAtMark(3, "wire w = 1 ? 1 : (@512);");
        Check.dueFaultAtMark(3, "reg a : 8 = 0; next a = @256;");
        Check.dueFaultAtMark(3, "spec s = {@256};");
        CircuitChecker x = Check.reader("reg a : 2 = 3; input b : 1; wire c = a; wire d = a + b + c;");
        Check.due("a + b + c", x.value(3, 1), 7);
        Check.dueFaultAtMark(2, "spec s = {1}; wire w = @s;");
        Check.dueFaultAtMark(2, "spec s = {1}; wire w = 1 + ~@s;");
        Check.dueFaultAtMark(2, "spec s = {1}; spec t = {@s};");
        Check.dueFaultAtMark(2, "spec s = {1}; reg r : 1 = 0; next r = (@s);");
    }

    /** Specs p, q and r are so at the STATES 4 .. 7, at 2, 3, 6, 7, and at the odd ones. */
    private static void dueAt(String formula, String want) {
        CircuitChecker x = Check.reader("reg a : 3 = 0; spec p = {a & 4}; spec q = {a & 2}; spec r = {a & 1};"
            + "spec f = " + formula + ";");
        StringBuilder got = new StringBuilder();
        for (int s = 0; x.fault(0) == 0 && s < 8; s++) {
            got.append(x.at(3, s) ? "" + s : "");
        }
        Check.due(formula, x.fault(0) == 0 ? got.toString() : "a fault", want);
    }

    private static void formulas() {
        Check.sentence("FORMULA: EITHER, perhaps -> FORMULA.");
        dueAt("p -> q", "012367");
        dueAt("p -> q -> r", "0123457");
        dueAt("p -> (q -> r)", "0123457");
        dueAt("(p -> q) -> r", "13457");
        dueAt("p -> q -> r -> p", "01234567");
        dueAt("p", "4567");
        dueAt("p && q -> r", "0123457");
        dueAt("p -> q && r", "01237");
        dueAt("p || q -> r", "01357");
        dueAt("p -> q || r", "0123567");
        dueAt("(p)", "4567");
        dueAt("((p -> q))", "012367");
    }

    private static void tightnessOfFormulas() {
        Check.sentence("EITHER: BOTH with || between; BOTH: SINGLE with && between");
        dueAt("p || q && r", "34567");
        dueAt("p && q || r", "13567");
        dueAt("(p || q) && r", "357");
        dueAt("p && (q || r)", "567");
        dueAt("p || q || r", "1234567");
        dueAt("p && q && r", "7");
        dueAt("p && q || q && r || p && r", "3567");
        dueAt("p && p && p || q", "234567");
    }

    private static void singles() {
        Check.sentence("SINGLE: ! SINGLE, AX EX AF EF AG EG SINGLE");
        dueAt("!p && q", "23");
        dueAt("!p || q", "012367");
        dueAt("!p -> q", "234567");
        dueAt("!!p", "4567");
        dueAt("!(p && q)", "012345");
        for (String word : new String[] {"AX", "EX", "AF", "EF", "AG", "EG"}) {
            dueAt(word + " p && !p", "");
            dueAt(word + " p || q", "234567");
            dueAt(word + " !p", "0123");
            dueAt("!" + word + " p", "0123");
            dueAt(word + " " + word + " p", "4567");
            dueAt(word + "(p && q)", "67");
            dueAt(word + "{a == 3}", "3");
        }
        dueAt("A[p U q] && r", "37");
        dueAt("!A[p U q]", "0145");
        dueAt("E[p || r U q && r]", "37");
        dueAt("E[p -> q U q -> r]", "013457");
        Check.dueFaultAtMark(2, "reg a : 1 = 0; spec s = @a;");
        Check.dueFaultAtMark(2, "input a : 1; spec s = AX @a;");
        Check.dueFaultAtMark(2, "wire a = 1; spec s = {a} -> @a;");
    }
}
