import java.util.ArrayList;
import java.util.List;
import java.util.Set;
import java.util.TreeSet;

/**
 * SYNTAX, "the first TOKEN that cannot stand there, or what is no TOKEN", in full: behind each beginning each
 * TOKEN, and the end. Behind it stands a byte that is no TOKEN: the fault is there just if the TOKEN may stand.
 */
public final class GrammarTest {
    private static final String SIGNS = "( ) { } [ ] , : ; | = < + - * / % #";
    private static final String RESERVED = "def let in if then else iota dist sum max min scan rev cat flat pack perm part";
    private static final String ATOM = " 5 nm int iota dist sum max min scan rev cat flat pack perm part ( [ {";
    private static final String UNARY = ATOM + " #";
    private static final String EXPR = UNARY + " let if";
    private static final String NAME = " nm int";
    // Behind an operand: what goes on with it, and what may still be compared.
    private static final String GOES_ON = " [ + - * / %";
    private static final String MORE = GOES_ON + " < =";
    private static final String END = " END";

    public static void main(String[] args) {
        program();
        defs();
        expressions();
        atoms();
        each();
        bytes();
        numbers();
        words();
        reserved();
        blanks();
        Check.end();
    }

    /** Behind that beginning just these may stand. */
    private static void behind(String beginning, String may) {
        Set<String> allowed = new TreeSet<>(List.of(may.trim().split(" ")));
        List<String> all = new ArrayList<>(List.of((SIGNS + " " + RESERVED).split(" ")));
        all.addAll(List.of("5", "nm", "int"));
        for (String token : all) {
            int place = beginning.length() + 1;
            String text = beginning + " " + token + " $";
            int due = allowed.contains(token) ? place + token.length() + 1 : place;
            NestedVectors x = Check.fresh(text);
            Check.due("read() of " + text, x.read(), -100 - due);
            Check.due("fault() of " + text, x.fault(), Edge.SYNTAX);
        }
        String none = beginning + " ";
        NestedVectors x = Check.fresh(none);
        int got = x.read();
        Check.due("the end behind " + beginning, x.fault() == Edge.SYNTAX ? 0 : 1, allowed.contains("END") ? 1 : 0);
        if (!allowed.contains("END")) {
            Check.due("read() of " + none, got, -100 - none.length());
        }
    }

    private static void program() {
        behind("", EXPR + " def");
        behind("1", MORE + END);
        behind("nm", MORE + " (" + END);
        behind("def f()=1;", EXPR + " def");
        behind("def f()=1; 1", MORE + END);
        behind("def f()=1; def g()=1;", EXPR + " def");
    }

    private static void defs() {
        behind("def", NAME);
        behind("def f", " (");
        behind("def f(", NAME + " )");
        behind("def f(x", " :");
        behind("def f(x:", " int [");
        behind("def f(x:[", " int [");
        behind("def f(x:[int", " ]");
        behind("def f(x:[[int]", " ]");
        behind("def f(x:int", " , )");
        behind("def f(x:[int]", " , )");
        behind("def f(x:int,", NAME);
        behind("def f(x:int,y:int", " , )");
        behind("def f()", " =");
        behind("def f(x:int)", " =");
        behind("def f()=", EXPR);
        behind("def f()=1", MORE + " ;");
    }

    private static void expressions() {
        behind("let", NAME);
        behind("let x", " =");
        behind("let x=", EXPR);
        behind("let x=1", MORE + " in");
        behind("let x=1 in", EXPR);
        behind("let x=1 in 1", MORE + END);
        behind("if", EXPR);
        behind("if 1", MORE + " then");
        behind("if 1 then", EXPR);
        behind("if 1 then 1", MORE + " else");
        behind("if 1 then 1 else", EXPR);
        behind("if 1 then 1 else 1", MORE + END);
        for (String sign : "< = + - * / %".split(" ")) {
            behind("1" + sign, UNARY);
        }
        behind("#", UNARY);
        behind("#nm", MORE + " (" + END);
        behind("1<1", GOES_ON + END);
        behind("1=1", GOES_ON + END);
        behind("1+1", MORE + END);
        behind("1-1<1*1", GOES_ON + END);
        behind("1*1", MORE + END);
    }

    private static void atoms() {
        behind("(", EXPR);
        behind("(1", MORE + " )");
        behind("(1<1", GOES_ON + " )");
        behind("(1)", MORE + END);
        behind("[", EXPR);
        behind("[1", MORE + " , ]");
        behind("[1,", EXPR);
        behind("[1,1", MORE + " , ]");
        behind("[1]", MORE + END);
        behind("f(", EXPR + " )");
        behind("f(1", MORE + " , )");
        behind("f(1,", EXPR);
        behind("f()", MORE + END);
        behind("f(1)", MORE + END);
        for (String word : RESERVED.substring(RESERVED.indexOf("iota")).split(" ")) {
            behind(word, " (");
            behind(word + "(", EXPR + " )");
            behind(word + "(1", MORE + " , )");
            behind(word + "(1,", EXPR);
            behind(word + "()", MORE + END);
        }
        behind("1[", EXPR);
        behind("1[1", MORE + " ]");
        behind("1[1]", MORE + END);
        behind("nm[1]", MORE + END);
    }

    private static void each() {
        behind("{", EXPR);
        behind("{1", MORE + " :");
        behind("{1:", NAME);
        behind("{1:x", " in");
        behind("{1:x in", EXPR);
        behind("{1:x in 1", MORE + " , | }");
        behind("{1:x in 1,", NAME);
        behind("{1:x in 1,y", " in");
        behind("{1:x in 1,y in 1", MORE + " , | }");
        behind("{1:x in 1|", EXPR);
        behind("{1:x in 1|1", MORE + " }");
        behind("{1:x in 1}", MORE + END);
        behind("{1:x in 1|1}", MORE + END);
    }

    /** "blanks (32, 10)", digits, letters a .. z, the signs: each byte between two numbers, and ahead of all. */
    private static void bytes() {
        for (int b = 1; b <= 255; b++) {
            String text = "1" + (char) b + "1";
            NestedVectors x = Check.fresh(text);
            boolean blank = b == 32 || b == 10;
            boolean digit = b >= 48 && b <= 57;
            boolean between = "+-*/%<=".indexOf(b) >= 0;
            // A [ may stand, and then the end is what cannot; a letter takes the 1 with it.
            int due = digit ? 1 : between ? 3 : blank ? -102 : b == '[' ? -103 : -101;
            Check.due("read() of 1, byte " + b + ", 1", x.read(), due);
            NestedVectors ahead = Check.fresh((char) b + "$");
            boolean may = blank || digit || (b >= 97 && b <= 122) || "([{#".indexOf(b) >= 0;
            Check.due("read() of byte " + b + " and no token", ahead.read(), may ? -101 : -100);
            NestedVectors behind = Check.fresh("1" + (char) b);
            int last = digit ? 1 : blank ? 1 : between || b == '[' ? -102 : -101;
            Check.due("read() of 1 and byte " + b, behind.read(), last);
        }
    }

    /** "a NUMBER (1 to 9 digits; a row of more is no TOKEN)" */
    private static void numbers() {
        for (int n = 1; n <= 9; n++) {
            Edge.reads("9".repeat(n), 1);
            Edge.comes("9".repeat(n), "9".repeat(n));
            Edge.reads("0".repeat(n), 1);
        }
        for (int n = 10; n <= 12; n++) {
            Edge.faults("9".repeat(n), Edge.SYNTAX, 0);
            Edge.faults("0".repeat(n), Edge.SYNTAX, 0);
            Edge.faults("1+ " + "1".repeat(n) + "+1", Edge.SYNTAX, 3);
        }
        Edge.faults("1".repeat(1200), Edge.SYNTAX, 0);
        Edge.comes("000000001", "1");
        Edge.comes("0123456789"  .substring(1), "123456789");
        // What cannot stand comes ahead of what is no TOKEN behind it, and a row of ten is none wherever it is.
        Edge.faults(") 1234567890", Edge.SYNTAX, 0);
        Edge.faults("1 1234567890", Edge.SYNTAX, 2);
        Edge.faults("123456789 1", Edge.SYNTAX, 10);
        Edge.faults("1234567890x", Edge.SYNTAX, 0);
        Edge.faults("123456789x", Edge.SYNTAX, 9);
    }

    /** "a WORD (a letter a .. z, then letters and digits, 8 in all at most; a longer row is no TOKEN)" */
    private static void words() {
        for (int n = 1; n <= 8; n++) {
            Edge.reads("let " + "a".repeat(n) + "=1 in " + "a".repeat(n), 3);
            Edge.reads("let z" + "9".repeat(n - 1) + "=1 in z" + "9".repeat(n - 1), 3);
        }
        for (int n = 9; n <= 11; n++) {
            Edge.faults("let " + "a".repeat(n) + "=1 in 1", Edge.SYNTAX, 4);
            Edge.faults("let z" + "9".repeat(n - 1) + "=1 in 1", Edge.SYNTAX, 4);
            Edge.faults("  " + "b".repeat(n), Edge.SYNTAX, 2);
        }
        Edge.faults("x".repeat(1200), Edge.SYNTAX, 0);
        // All eight tell one NAME from another.
        Edge.comes("let abcdefgh=1 in let abcdefgi=2 in abcdefgh", "1");
        Edge.comes("let abcdefgh=1 in let bbcdefgh=2 in abcdefgh", "1");
        Edge.comes("let a=1 in let a0=2 in let aa=3 in a", "1");
        Edge.faults("let abcdefgh=1 in abcdefg", Edge.NAMED, 18);
        // A row of letters and digits is one WORD, also with a RESERVED WORD at its beginning.
        Edge.faults("letx=1 in x", Edge.SYNTAX, 7);
        Edge.comes("let ifthen=1 in ifthen", "1");
        Edge.comes("let iota2=1 in iota2", "1");
        Edge.comes("let x=1in x", "1");
        Edge.faults("let x=1 inx", Edge.SYNTAX, 8);
        Edge.faults("definiti0n", Edge.SYNTAX, 0);
    }

    /** "RESERVED WORDS", and "A NAME is any other WORD"; "int is a NAME elsewhere". */
    private static void reserved() {
        for (String word : RESERVED.split(" ")) {
            Edge.faults("let " + word + "=1 in 1", Edge.SYNTAX, 4);
            Edge.faults("def " + word + "()=1; 1", Edge.SYNTAX, 4);
            Edge.faults("def f(" + word + ":int)=1; 1", Edge.SYNTAX, 6);
            Edge.faults("def f(x:" + word + ")=1; 1", Edge.SYNTAX, 8);
            Edge.faults("{1:" + word + " in [1]}", Edge.SYNTAX, 3);
            Edge.reads("let " + word + "s=1 in " + word + "s", 3);
            Edge.reads("let " + word + "0=1 in " + word + "0", 3);
            String less = word.substring(0, word.length() - 1);
            Edge.reads("let " + less + "=1 in " + less, 3);
        }
        Edge.comes("def int(int:int)=int; let int=3 in {int(int):int in [int]}", "[3]");
        Edge.faults("def f(x:ints)=1; 1", Edge.SYNTAX, 8);
        Edge.faults("def f(x:in)=1; 1", Edge.SYNTAX, 8);
        Edge.faults("int", Edge.NAMED, 0);
    }

    /** "with blanks (32, 10) between or not" */
    private static void blanks() {
        String tight = "def f(a:int,b:[[int]])=if a<1then#b else(a+1)*2;let q=[1,2]in{f(x,[[x]])-1:x in q,y in q|y=2}";
        String loose = " def f ( a : int , b : [ [ int ] ] ) = if a < 1 then # b else ( a + 1 ) * 2 ; let q = [ 1 , 2 ] in "
            + "{ f ( x , [ [ x ] ] ) - 1 : x in q , y in q | y = 2 } ";
        Edge.comes(tight, "[5]");
        Edge.comes(loose, "[5]");
        Edge.comes(loose.replace(' ', '\n'), "[5]");
        Edge.comes(loose.replace(" ", " \n\n "), "[5]");
        Edge.faults(" ", Edge.SYNTAX, 1);
        Edge.faults("\n\n", Edge.SYNTAX, 2);
        Edge.faults("", Edge.SYNTAX, 0);
        Edge.reads("\n \n1", 1);
        Edge.faults("1 1", Edge.SYNTAX, 2);
        Edge.faults("le t", Edge.SYNTAX, 3);
    }
}
