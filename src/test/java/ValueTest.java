/** Promises 6 and 8 to 16: values and types. */
public final class ValueTest {
    private static final String WORDS = "type E=enum{red,blue};template W={z:=?,f:=?,g:=?,h:=?};";

    public static void main(String[] args) {
        works();
        errors();
        faults();
        full();
        weights();
        about();
        alike();
        fits();
        within();
        lightest();
        many();
        tell();
        Talk.finish();
    }

    private static void works() {
        Talk talk = Talk.of(WORDS);
        talk.works("1", "1");
        talk.works("-7/2", "-3");
        talk.works("7/-2", "-3");
        talk.works("-7%3", "-1");
        talk.works("7%-3", "1");
        talk.works("2+3*4-1", "13");
        talk.works("10-3-2", "5");
        talk.works("100/10/5", "2");
        talk.works("(2+3)*4", "20");
        talk.works("--1", "1");
        talk.works("- -1", "1");
        talk.works("!true", "false");
        talk.works("1<2", "true");
        talk.works("2<=2&&3>=4", "false");
        talk.works("2>1||1/0==0", "true");
        talk.works("1>2&&1/0==0", "false");
        talk.works("false||true&&false", "false");
        talk.works("true||false&&false", "true");
        talk.works("1==1", "true");
        talk.works("1==\"1\"", "false");
        talk.works("omit==omit", "true");
        talk.works("{f:=omit}!={}", "false");
        talk.works("red==blue", "false");
        talk.works("\"a b\"&\"c\"", "\"a bc\"");
        talk.works("\"12345678\"&\"9abcdefgh\"", "\"123456789abcdefgh\"");
        talk.works("[1]&[]&[[2],red]", "[1,[2],red]");
        talk.works("size \"abc\"+size [1,2]*size {f:=1,g:=omit}", "5");
        talk.works("{f:=1,z:=\"x\"}", "{z:=\"x\",f:=1}");
        talk.works("{f:=1}.f", "1");
        talk.works("{f:=1}.g", "omit");
        talk.works("(@f 1).f", "1");
        talk.works("(@f 1).g", "omit");
        talk.works("@f {g:=1}.g", "@f 1");
        talk.works("@f @g [true,omit==1]", "@f @g [true,false]");
        talk.works("-{f:=[1,2]}.f[1]", "-2");
        talk.works("[1,2,3][1+1]", "3");
        talk.works("omit", "omit");
        talk.works("[]", "[]");
        talk.works("{}", "{}");
        talk.works("\"\"", "\"\"");
        talk.works("999999999999999+1", "1000000000000000");
        talk.works("-999999999999999-1", "-1000000000000000");
        talk.works("31622776*31622776", "999999961946176");
        talk.works("-100000*1000000000*10", "-1000000000000000");
    }

    private static void errors() {
        Talk talk = Talk.of(WORDS);
        String[] kinds = {"1+true", "1+omit", "true+(1==1)", "-true", "!1", "size 1", "size omit", "size red", "size(@f 1)", "1&2", "\"a\"&[1]",
            "red<blue", "\"a\"<\"b\"", "true&&1", "1&&true", "false||1", "omit.f", "[].f", "\"a\"[0]", "{}[0]", "[1][true]", "[1,omit]", "@f omit",
            "omit[0]", "[1][omit]", "true/0"};
        for (String exp : kinds) talk.fails(exp, 1);
        talk.fails("[1][1]", 2);
        talk.fails("[1][-1]", 2);
        talk.fails("[][0]", 2);
        talk.fails("1/0", 3);
        talk.fails("1%0", 3);
        talk.fails("999999999999999+2", 3);
        talk.fails("-999999999999999-2", 3);
        talk.fails("31622777*31622777", 3);
        talk.fails("999999999999999*999999999999999", 3);
        talk.fails("\"" + Talk.times("a", 40) + "\"&\"b\"", 3);
        talk.fails("[1,2,3,4,5,6,7,8]&[1,2,3,4,5,6,7,8,9]", 3);
        // Both sides, all parts are worked out first, from the left.
        talk.fails("[omit,1/0]", 3);
        talk.fails("true+1/0", 3);
        talk.fails("[1][5]+1/0", 2);
        talk.fails("1/0+[1][5]", 3);
        talk.fails("{f:=1/0,g:=-true}", 3);
        Talk.due("an ERROR is no fault", talk.x.count(0), 0);
        Talk.due("no place", talk.x.count(1), MatchHouse.BAD);
        Talk.due("nothing is kept", talk.x.count(9), 0);
    }

    private static void faults() {
        Talk talk = Talk.of(WORDS + "component C{var v:=1;}type R=int;");
        String[] marked = {"^green", "^z", "^C", "^v", "^R", "{^y:=1}", "{f:=1}.^y", "@^y 1", "1+^me", "^now", "^verdict", "^met(y,?)", "^ended(y)",
            "^active y", "{f:=^x,y:=me}"};
        for (String exp : marked) talk.valueFault(4, exp);
        talk.valueFault(2, "^");
        talk.valueFault(2, " #1\n ^");
        talk.valueFault(2, "1 ^2");
        talk.valueFault(2, "1^;");
        talk.valueFault(2, "^type");
        talk.valueFault(2, "y+^");
        talk.valueFault(1, "1+^$");
        talk.valueFault(3, "{f:=1,^f:=2}");
        talk.valueFault(3, "{y:=1,^y:=2}");
        talk.valueFault(5, Talk.times("(", 17) + "^1" + Talk.times(")", 17));
        talk.valueFault(5, Talk.times("-", 2_999) + "1^+1");
        talk.valueFault(5, "[" + Talk.row("1", 12) + ",^1]");
        talk.keep("1");
        Talk.due("fault is over", talk.x.count(0), 0);
        talk.valueFault(4, "^y");
        Talk.due("still no word", talk.value("{y:=1}"), -14);
    }

    private static void full() {
        Talk talk = Talk.of("");
        Talk.due("drop nothing", talk.x.drop(), MatchHouse.BAD);
        for (int i = 0; i < 40; i++) Talk.due("keep " + i, talk.value("" + i), i);
        Talk.due("full", talk.value("40"), MatchHouse.FULL);
        Talk.due("text stays", talk.x.count(2), 2);
        Talk.due("drop", talk.x.drop(), 39);
        Talk.due("the text is still there", talk.x.value(), 39);
        Talk.due("it is 40", talk.x.about(39, 3), 40);
        Talk.due("bad number", talk.x.about(40, 0), MatchHouse.BAD);
        for (int i = 39; i >= 0; i--) Talk.due("drop to " + i, talk.x.drop(), i);
        Talk.due("none is left", talk.x.drop(), MatchHouse.BAD);
    }

    private static void weights() {
        Talk talk = Talk.of("template W={f:=?};");
        String heavy = "[" + Talk.row("\"" + Talk.times("a", 40) + "\"", 12) + "]";
        Talk.due("73", talk.x.about(talk.keep(heavy), 1), 73);
        String seven = Talk.row("\"" + Talk.times("a", 40) + "\"", 7);
        Talk.due("120", talk.x.about(talk.keep("[" + heavy + ",[" + seven + ",1,1,1]]"), 1), 120);
        talk.fails("[" + heavy + ",[" + seven + ",1,1,1,1]]", 3);
        talk.fails("{f:=[" + heavy + ",[" + seven + ",1,1]]}", 3);
        talk.fails("@f [" + heavy + ",[" + seven + ",1,1,1]]", 3);
        talk.fails("[" + heavy + "]&[" + heavy + "]", 3);
        String[] texts = {"", "a", "12345678", "123456789"};
        int[] weights = {1, 2, 2, 3};
        for (int i = 0; i < 4; i++) Talk.due("weight of " + texts[i], talk.x.about(talk.keep("\"" + texts[i] + "\""), 1), weights[i]);
        Talk.due("119 deep", talk.x.about(talk.keep(Talk.times("@f ", 119) + "1"), 1), 120);
        talk.fails(Talk.times("@f ", 120) + "1", 3);
    }

    private static void about() {
        Talk talk = Talk.of(WORDS);
        String[] exps = {"-5", "true", "\"abcdefghi\"", "blue", "omit", "{f:=1,g:=\"a\"}", "@f [1]", "[1,[2,3]]"};
        int[][] want = {{0, 1, 0, -5}, {1, 1, 0, 1}, {2, 3, 9, 0}, {3, 1, 0, 0}, {4, 1, 0, 0}, {6, 6, 2, 0}, {7, 3, 0, 0}, {8, 5, 2, 0}};
        for (int i = 0; i < exps.length; i++) {
            int v = talk.keep(exps[i]);
            for (int what = 0; what < 4; what++) Talk.due("about " + exps[i] + ", " + what, talk.x.about(v, what), want[i][what]);
            Talk.due("about 4", talk.x.about(v, 4), MatchHouse.BAD);
            Talk.due("about -1", talk.x.about(v, -1), MatchHouse.BAD);
        }
        Talk.due("false", talk.x.about(talk.keep("false"), 3), 0);
        Talk.due("nearest above", talk.x.about(talk.keep("2147483648"), 3), 2147483647);
        Talk.due("nearest below", talk.x.about(talk.keep("-2147483649"), 3), -2147483648);
        Talk.due("about -1", talk.x.about(-1, 0), MatchHouse.BAD);
        Talk.due("about none", talk.x.about(talk.x.count(9), 0), MatchHouse.BAD);
    }

    private static void alike() {
        Talk talk = Talk.of(WORDS);
        String[] exps = {"1", "true", "\"1\"", "red", "omit", "{f:=1,g:=2}", "{g:=2,f:=1,h:=omit}", "@f 1", "@g 1", "[1]", "{f:=1}", "[1,2]", "0+1", "\"\"", "[]", "{}"};
        int[] likeness = {0, 1, 2, 3, 4, 5, 5, 7, 8, 9, 10, 11, 0, 13, 14, 15};
        for (String exp : exps) talk.keep(exp);
        for (int i = 0; i < exps.length; i++) {
            for (int k = 0; k < exps.length; k++) {
                Talk.due(exps[i] + " alike " + exps[k], talk.x.alike(i, k), likeness[i] == likeness[k] ? 1 : 0);
            }
        }
        Talk.due("bad", talk.x.alike(0, exps.length), MatchHouse.BAD);
        Talk.due("bad", talk.x.alike(-1, 0), MatchHouse.BAD);
    }

    private static void fits() {
        Talk talk = Talk.of("type A=int;type B=int(-3..3,7);type C=text(2..3);type D=enum{red,blue};type F=record{f:B,g:A optional};"
            + "type G=choice{f:B,g:bool};type H=list(1..2)of G;type I=bool;type J=text;type K=list of A;type L=B;type M=enum{up};type N=record{};");
        String[][] fitting = {
            {"1000000*1000000000", "-999999999999999-1"}, {"-3", "3", "7"}, {"\"ab\"", "\"abc\""}, {"red", "blue"}, {"{f:=1}", "{g:=-99,f:=7}"},
            {"@f 7", "@g false"}, {"[@f 1]", "[@g true,@f 3]"}, {"true"}, {"\"\"", "\"" + Talk.times("x", 40) + "\""}, {"[]", "[1,2,3,4,5,6,7,8]&[1,2,3,4,5,6,7,8]"},
            {"-3"}, {"up"}, {"{}"}};
        String[][] others = {
            {"true", "omit"}, {"-4", "4", "6", "8", "true"}, {"\"a\"", "\"abcd\"", "[1,1]"}, {"up", "1"}, {"{}", "{f:=4}", "{f:=1,g:=true}", "{f:=1,red:=1}", "@f 1"},
            {"@f 4", "@g 1", "@red 1", "{f:=1}"}, {"[]", "[@f 1,@f 1,@f 1]", "[1]", "[@f 9]"}, {"1"}, {"1"}, {"[true]", "{}"}, {"9"}, {"red"}, {"{f:=1}", "[]"}};
        for (int t = 0; t < fitting.length; t++) {
            for (String exp : fitting[t]) {
                Talk.due(exp + " fits " + t, talk.x.fits(talk.keep(exp), t), 1);
                talk.x.drop();
            }
            for (String exp : others[t]) {
                Talk.due(exp + " fits " + t, talk.x.fits(talk.keep(exp), t), 0);
                talk.x.drop();
            }
        }
        talk.keep("1");
        Talk.due("no type", talk.x.fits(0, 13), MatchHouse.BAD);
        Talk.due("no type", talk.x.fits(0, -1), MatchHouse.BAD);
        Talk.due("no value", talk.x.fits(1, 0), MatchHouse.BAD);
    }

    /** Whether the first type is within the second one, and the other way. */
    private static void within(String types, int there, int back) {
        Talk talk = Talk.of(types);
        Talk.due("within " + types, talk.x.within(0, 1), there);
        Talk.due("within back " + types, talk.x.within(1, 0), back);
        Talk.due("within itself " + types, talk.x.within(0, 0), 1);
    }

    private static void within() {
        within("type A=int(1..3,4..6);type B=int(0..2,3..9);", 1, 0);
        within("type A=int(1..3,5..6);type B=int(1..6);", 1, 0);
        within("type A=int(1..2,3..4,2..3);type B=int(4,3,2,1);", 1, 1);
        within("type A=int;type B=int(-999999999999999..999999999999999);", 0, 1);
        within("type A=text(1..2);type B=text;", 1, 0);
        within("type A=text(1..2);type B=text(2..3);", 0, 0);
        within("type A=list(1..2)of int;type B=list(2..3)of int;", 0, 0);
        within("type A=enum{a,b};type B=enum{b,c,a};", 1, 0);
        within("type A=bool;type B=int;", 0, 0);
        within("type A=record{f:int};type B=record{f:int optional};", 1, 0);
        within("type A=record{f:int};type B=record{f:int,g:int optional};", 1, 0);
        within("type A=record{f:int};type B=record{f:int,g:int};", 0, 0);
        within("type A=record{f:int(1),g:bool};type B=record{g:bool,f:int};", 1, 0);
        within("type A=choice{f:int(1)};type B=choice{g:bool,f:int};", 1, 0);
        within("type A=list(1..2)of int(1);type B=list of int;", 1, 0);
        within("type A=list(0)of int;type B=list of bool;", 1, 0);
        within("type A=list of int;type B=list(0..16)of B;", 0, 0);
        // There is no VALUE of N at all, so optional and listed ones never are there.
        String none = "type N=record{n:N};";
        within("type A=N;type B=int(1);" + none, 1, 0);
        within("type A=list of N;type B=list(0)of int;" + none, 1, 1);
        within("type A=list(1..2)of N;type B=bool;" + none, 1, 0);
        within("type A=record{f:N optional};type B=record{};" + none, 1, 1);
        within("type A=record{f:N optional};type B=record{g:int optional};" + none, 1, 0);
        within("type A=choice{f:N,g:int};type B=choice{g:int};" + none, 1, 1);
        within("type A=choice{f:A};type B=N;" + none, 1, 1);
        // Of endless depth, and with other turns.
        within("type A=list of list of A;type B=list of B;", 1, 1);
        within("type A=list of list of A;type B=list of list of list of B;", 1, 1);
        within("type A=list of C;type B=list of D;type C=list of A;type D=list of list of D;", 1, 1);
        within("type A=choice{n:A,e:int(1)};type B=choice{n:B,e:int};", 1, 0);
        within("type A=choice{n:choice{n:A,e:int(2)},e:int(1)};type B=choice{n:B,e:int(1..2)};", 1, 0);
        within("type A=record{v:int,n:A optional};type B=record{v:int,n:record{v:int,n:B optional}optional};", 1, 1);
        within("type A=C;type B=D;type C=int(1);type D=int(1..2);", 1, 0);
        Talk talk = Talk.of("type A=int;");
        Talk.due("bad", talk.x.within(0, 1), MatchHouse.BAD);
        Talk.due("bad", talk.x.within(1, 0), MatchHouse.BAD);
        Talk.due("bad", talk.x.within(-1, 0), MatchHouse.BAD);
    }

    private static void lightest() {
        Talk talk = Talk.of("type A=int(5);type B=text(9..10);type C=record{f:B,g:C optional};type D=choice{f:C,g:bool};type E=list(2..3)of D;"
            + "type F=record{f:F};type G=list of F;type H=list(1)of F;type I=choice{f:I,g:J};type J=A;type K=list(16)of text(40);type L=record{a:K,b:text(30..40)};"
            + "type M=list(16)of text(40);type N=record{a:M,f:text(33..40),g:bool};type O=record{a:list(7)of list(16)of int(1)};type P=record{};type Q=list(16)of Z;type Z=list(16)of Y;type Y=list(16)of K;");
        int[] want = {1, 3, 5, 2, 5, -2, 1, -2, 2, 1, 97, 1 + 98 + 6, 97, 1 + 98 + 7 + 2, -2, 1, -2};
        for (int t = 0; t < want.length; t++) Talk.due("lightest " + t, talk.x.lightest(t), want[t]);
        Talk.due("bad", talk.x.lightest(-1), MatchHouse.BAD);
        Talk.due("bad", talk.x.lightest(19), MatchHouse.BAD);
        // 120 and one more.
        talk = Talk.of("type A=list(16)of record{a:text(1..8),b:bool};type B=record{l:list(14)of record{a:text(1..8),b:bool},m:int,n:int,o:int,p:list(0)of int,q:choice{r:bool}};");
        Talk.due("97", talk.x.lightest(0), 1 + 16 * 6);
        Talk.due("list, choice and others", talk.x.lightest(1), 1 + (1 + 1 + 14 * 6) + 2 + 2 + 2 + 2 + 3);
        talk = Talk.of("type A=list(7)of list(16)of bool;type B=list(7)of record{f:list(14)of bool};type C=record{f:A};type D=list(2)of record{f:list(1)of list(15)of bool,g:B};");
        Talk.due("120", talk.x.lightest(0), 120);
        Talk.due("120, too", talk.x.lightest(1), 1 + 7 * 17);
        Talk.due("122", talk.x.lightest(2), MatchHouse.NONE);
        Talk.due("far above", talk.x.lightest(3), MatchHouse.NONE);
    }

    private static void many() {
        Talk talk = Talk.of("type A=int(1..3,2..5,9);type B=int;type C=text;type D=enum{x,y,z};type E=record{f:A optional,g:D};type F=list(0..2)of D;"
            + "type G=choice{f:D,g:G};type H=record{n:H};type I=list of I;type J=record{};type K=bool;type L=G;type M=text(1);type N=list(2)of choice{f:K,g:list of K};");
        long[][] want = {
            {0, 1, 6}, {0, 2, 0}, {1, 1, 2_000_000_000_000_001L}, {2, 1, 1}, {2, 6, 4_000_000_000_000_000_000L}, {2, 7, 0}, {3, 1, 3},
            {4, 3, 3}, {4, 4, 0}, {4, 5, 18}, {4, 2, 0}, {5, 1, 1}, {5, 2, 3}, {5, 3, 9}, {5, 4, 0}, {6, 1, 0}, {6, 2, 3}, {6, 20, 3},
            {7, 1, 0}, {7, 20, 0}, {8, 1, 1}, {8, 2, 1}, {8, 3, 2}, {8, 4, 5}, {8, 5, 14}, {9, 1, 1}, {9, 2, 0}, {10, 1, 2}, {11, 5, 3}, {12, 2, 94},
            {12, 1, 0}, {13, 5, 9}, {13, 6, 12}, {13, 4, 0}};
        for (long[] row : want) {
            Talk.due("many " + row[0] + " of weight " + row[1], talk.x.many((int) row[0], (int) row[1]), row[2]);
        }
        long power = 1;
        long sum = 0;
        for (int n = 1; n <= 8; n++) {
            power *= 94;
            sum += power;
        }
        Talk.due("texts of 1 to 8 signs", talk.x.many(2, 2), sum);
        Talk.due("texts of 9 to 16 signs", talk.x.many(2, 3), 4_000_000_000_000_000_000L);
        // Lists of lists of up to 16: up to weight 17 all ordered trees, then but those without 17 in a row.
        long[] trees = new long[21];
        trees[1] = 1;
        for (int n = 2; n <= 20; n++) {
            for (int k = 1; k < n; k++) trees[n] += forests(trees, k, n - 1);
            if (n <= 17) Talk.due("trees of " + n, talk.x.many(8, n), trees[n]);
        }
        Talk.due("18", talk.x.many(8, 18), trees[18] - 1);
        Talk.due("weight 0", talk.x.many(0, 0), MatchHouse.BAD);
        Talk.due("weight 21", talk.x.many(0, 21), MatchHouse.BAD);
        Talk.due("no type", talk.x.many(14, 1), MatchHouse.BAD);
        Talk.due("no type", talk.x.many(-1, 1), MatchHouse.BAD);
    }

    /** Rows of k trees that weigh n together. */
    private static long forests(long[] trees, int k, int n) {
        if (k == 0) return n == 0 ? 1 : 0;
        long sum = 0;
        for (int x = 1; x <= n - k + 1; x++) sum += trees[x] * forests(trees, k - 1, n - x);
        return sum;
    }

    private static void tell() {
        Talk talk = Talk.of(WORDS);
        int v = talk.keep("{h:=[true,-5,\"a,b\"],g:=@f {},f:=red}");
        Talk.due("told", talk.told(v), "{f:=red,g:=@f {},h:=[true,-5,\"a,b\"]}");
        Talk.due("letter -1", talk.x.letter(-1), MatchHouse.NONE);
        Talk.due("bad", talk.x.tell(v + 1), MatchHouse.BAD);
        Talk.due("still at hand", talk.x.letter(0), '{');
        talk.x.drop();
        Talk.due("still at hand, dropped", talk.x.letter(1), 'f');
        Talk.due("omit", talk.x.tell(talk.keep("omit")), 4);
        Talk names = Talk.of("type aaaaaaaa=enum{abcdefgh,abcdefghi,abcdefghijkl,abcdefghijkm,a_9,Z};");
        for (String name : new String[] {"abcdefgh", "abcdefghi", "abcdefghijkl", "abcdefghijkm", "a_9", "Z"}) Talk.due("name", names.told(names.keep(name)), name);
        Talk.due("different", names.x.alike(2, 3), 0);
        String deep = Talk.times("@f ", 100) + "[1,[],{}]";
        Talk.due("deep", talk.told(talk.keep(deep)), deep);
        String wide = "[" + Talk.row("{z:=\"" + Talk.times("x", 40) + "\"}", 12) + "]";
        Talk.due("wide", talk.told(talk.keep(wide)), wide);
    }
}
