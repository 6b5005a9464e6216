/** Promises 17 and 18: templates, and why a VALUE does not match. */
public final class TemplateTest {
    private static final String ALL = "type E=enum{red,blue};template W={f:=?,g:=?,h:=?};";

    public static void main(String[] args) {
        tones();
        rows();
        bags();
        patterns();
        behindTones();
        same();
        bad();
        why();
        many();
        Talk.finish();
    }

    /** Which of these VALUES match a templ. */
    private static void holds(String templ, String yes, String no) {
        Talk talk = Talk.of(ALL + "template X= " + templ + ";");
        for (int i = 0; i < 2; i++) {
            for (String exp : (i == 0 ? yes : no).split(" ")) {
                if (exp.isEmpty()) continue;
                Talk.due(exp + " matches " + templ, talk.x.met(1, talk.keep(exp.replace('_', ' '))), 1 - i);
                talk.x.drop();
            }
        }
    }

    private static void tones() {
        holds("?", "1 true \"\" red {} @f_1 []", "omit");
        holds("*", "1 omit []", "");
        holds("5", "5", "4 -5 \"5\" omit");
        holds("-5", "-5", "5");
        holds("true", "true", "false 1");
        holds("\"ab\"", "\"ab\"", "\"a\" \"abc\" [\"ab\"]");
        holds("red", "red", "blue \"red\"");
        holds("-2..3", "-2 0 3", "-3 4 true omit");
        holds("omit", "omit", "1 {}");
        holds("W", "{f:=1,g:=2,h:=3}", "{f:=1,g:=2} 1");
        holds("{f:=1,g:=*,h:=omit}", "{f:=1} {g:=[],f:=1}", "{f:=1,h:=1} {g:=1} {} @f_1");
        holds("{}", "{}", "{f:=1} []");
        holds("@f 1..3", "@f_2", "@f_4 @g_2 {f:=2}");
        holds("not(1,{})", "2 [] true", "1 {} omit");
        holds("not(omit)", "1", "omit");
        holds("both(1..5,3..9,not(4))", "3 5", "1 4 6 omit");
        holds("both(*,omit)", "omit", "1");
        holds("(1,red,omit)", "1 red omit", "2 blue");
    }

    private static void rows() {
        holds("[]", "[]", "[1] {}");
        holds("[1,?]", "[1,2] [1,[]]", "[1] [2,1] [1,2,3] omit");
        holds("[*]", "[] [1,2,3]", "omit 1");
        holds("[*,1,*]", "[1] [1,2] [2,1] [2,1,1,2]", "[] [2]");
        holds("[*,1,*,2]", "[1,2] [1,1,2,2]", "[2,1] [1,2,1]");
        holds("[perm(1,2,?)]", "[1,2,3] [3,2,1] [2,1,2] [5,2,1]", "[1,2] [1,1,3] [1,2,3,4] [1,3,3]");
        holds("[perm(?,1),2]", "[1,5,2] [5,1,2] [1,1,2]", "[5,5,2] [1,2] [2,1,5]");
        holds("[*,perm(1,2),*]", "[2,1] [3,2,1,3] [1,1,2]", "[1,3,2] [1]");
        holds("[perm(1,*)]", "[1,2] [2,1]", "[1] [1,2,3]");
        holds("[perm(0..1,1..2,2..3)]", "[0,1,2] [2,1,1] [3,1,2] [1,2,2]", "[0,0,3] [3,3,1]");
        // * with something behind it takes one, a template that is * as well.
        holds("[* length(0)]", "[\"\"] [[]]", "[] [1] [\"\",\"\"]");
        holds("[* ifpresent,1]", "[2,1]", "[1]");
        holds("[S];template S=*", "[1]", "[] [1,2]");
        holds("[[perm([*],?)],*]", "[[1,[]]] [[[],1],2]", "[[1,1]] []");
    }

    private static void bags() {
        holds("subset(1,2,2..9)", "[] [1] [2,5] [2,2] [5,2,1] [2,1,3]", "[1,1] [2,2,2] [1,2,3,4] [0] 1");
        holds("subset(?,1)", "[5,1] [1,5] [1,1]", "[5,5]");
        holds("superset(1,?,2)", "[1,2,3] [2,1,1] [3,2,1,9]", "[1,2] [1,1,3] []");
        holds("superset(0..1,1..2,2..3)", "[2,1,0] [3,2,1]", "[0,0,3]");
        holds("superset([],{})", "[{},[]] [1,[],{}]", "[[],[]]");
        holds("superset(?)", "[1] [1,2]", "[] omit");
        holds("subset(subset(1,2),superset(1))", "[[2],[2,1]] [[1],[1]]", "[[2],[2]]");
    }

    private static void patterns() {
        holds("pattern \"\"", "\"\"", "\"a\" omit 1 [\"\"]");
        holds("pattern \"*\"", "\"\" \"abc\"", "omit");
        holds("pattern \"?\"", "\"a\" \"*\"", "\"\" \"ab\"");
        holds("pattern \"a*\"", "\"a\" \"abc\"", "\"\" \"ba\"");
        holds("pattern \"?a*b\"", "\"xab\" \"aab\" \"xaxbb\"", "\"ab\" \"xabc\"");
        holds("pattern \"*ab*ba*\"", "\"abba\" \"aabbbaa\" \"xabxbax\"", "\"aba\" \"baab\"");
        holds("pattern \"**a?**\"", "\"ab\" \"aaa\"", "\"a\" \"ba\"");
        String many = Talk.times("a", 39);
        holds("pattern \"" + Talk.times("a*", 20) + "\"", "\"" + many + "\"", "\"b" + many + "\" \"aaa\"");
        holds("pattern \"" + Talk.times("*a", 19) + "b\"", "\"" + many + "b\"", "\"" + many + "a\"");
    }

    private static void behindTones() {
        holds("? length(2)", "\"ab\" [1,2]", "\"a\" [1] {f:=1,g:=2} 2 omit");
        holds("* length(1..2)", "[1] \"ab\"", "omit [] [1,2,3]");
        holds("1 length(1)", "", "1");
        holds("? ifpresent", "1 omit", "");
        holds("1 ifpresent", "1 omit", "2");
        holds("? length(0..1) ifpresent", "omit [] [1]", "[1,2] 1");
        holds("{f:=1 ifpresent}", "{} {f:=1}", "{f:=2}");
        holds("not(1) ifpresent", "omit 2", "1");
        holds("not(? ifpresent)", "", "1 omit");
        holds("@f ? length(1)", "@f_[1]", "@f_[] @f_1");
        holds("W length(1)", "", "{f:=1,g:=2,h:=3}");
        holds("X1 length(1);template X1=[*]", "[1]", "[] [1,2]");
    }

    private static void same() {
        Talk first = Talk.of("template A=*;template B={f:=A};template C=[A,@f A];");
        Talk.due("OMIT is held against the first template", first.x.met(1, first.keep("{}")), 1);
        Talk.due("other parts, too", first.x.met(2, first.keep("[[1],@f 1]")), 1);
        holds("=(1+2)", "3", "2 omit");
        holds("=(omit)", "omit", "1");
        holds("=({f:=omit})", "{}", "{f:=1} omit");
        holds("[= ([1]&[2]),*]", "[[1,2]] [[1,2],3]", "[1,2]");
        holds("{f:= =(omit),g:= =(1)}", "{g:=1}", "{f:=1,g:=1} {}");
        Talk talk = Talk.of(ALL + "template A= =(1/0);template B=(1,=(-true),=(1/0));template C=[D,A];template D=both(=([1][1]));template F=(*,A);template G=(=(1),red);");
        int v = talk.keep("1");
        Talk.due("3", talk.x.met(1, v), -23);
        Talk.due("1 is first", talk.x.met(2, v), -21);
        Talk.due("2 of D is first", talk.x.met(3, v), -22);
        Talk.due("ahead of all else", talk.x.met(5, v), -23);
        Talk.due("no ERROR", talk.x.met(6, v), 1);
    }

    private static void bad() {
        Talk talk = Talk.of(ALL);
        int v = talk.keep("1");
        Talk.due("no template", talk.x.met(1, v), MatchHouse.BAD);
        Talk.due("no template", talk.x.met(-1, v), MatchHouse.BAD);
        Talk.due("no value", talk.x.met(0, v + 1), MatchHouse.BAD);
        Talk.due("no value", talk.x.met(0, -1), MatchHouse.BAD);
        Talk.due("no steps", talk.x.why(0), MatchHouse.NONE);
    }

    private static void steps(Talk talk, String what, int... want) {
        for (int i = 0; i < want.length; i++) Talk.due("why " + i + " of " + what, talk.x.why(i), want[i]);
        Talk.due("why behind " + what, talk.x.why(want.length), MatchHouse.NONE);
        Talk.due("why -1", talk.x.why(-1), MatchHouse.NONE);
    }

    /** Words: f 1000, g 1001, h 1002, X 1003. */
    private static void why(String templ, String exp, int... want) {
        Talk talk = Talk.of("type f=bool;type g=bool;type h=bool;template X= " + templ + ";");
        Talk.due(exp + " against " + templ, talk.x.met(0, talk.keep(exp)), 0);
        steps(talk, exp + " against " + templ, want);
    }

    private static void why() {
        why("1", "2");
        why("{f:=1,g:=2}", "{g:=3,f:=3}", 1000);
        why("{g:=2,f:=1}", "{g:=3,f:=3}", 1001);
        why("{f:=1,g:=2}", "{f:=1}", 1001);
        why("{f:={g:=1},h:=?}", "{f:={g:=2},h:=1}", 1000, 1001);
        why("{f:={g:=1}}", "{f:=1}", 1000);
        why("{g:=1}", "{h:=1,g:=1,f:=1}", 1000);
        why("{f:={}}", "{f:={h:=1,g:=2}}", 1000, 1001);
        why("@f {g:=1}", "@f {g:=2}", 1000, 1001);
        why("{f:={g:=1,h:=2}}", "{f:={g:=1,h:=3}}", 1000, 1002);
        why("{f:=?}", "{f:=[1,2],g:=1,h:=1}", 1001);
        why("[1,[@f 2,@g {h:=1}]]", "[1,[@f 2,@g {h:=3}]]", 1, 1, 1001, 1002);
        why("@f 1", "@g 1");
        why("@f @g [1,2]", "@f @g [1,3]", 1000, 1001, 1);
        why("[1,[2,3]]", "[1,[2,4]]", 1, 1);
        why("[1,2]", "[1,2,3]");
        why("[1,*]", "[2,2]");
        why("[perm(1,2)]", "[1,1]");
        why("[1,* length(1)]", "[1,2]", 1);
        why("[1,2] length(1)", "[1,2]");
        why("[1,2] length(3)", "[1,3]", 1);
        why("{f:=1} length(1)", "{f:=1}");
        why("@f ? length(1) length(1)", "@f [1]", 1000);
        why("X2;template X2=X3;template X3={f:=X4};template X4=[X5];template X5=@g 1", "{f:=[@g 2]}", 1000, 0, 1001);
        why("(1,{f:=1})", "{f:=2}");
        why("{f:=not({g:=1})}", "{f:={g:=1}}", 1000);
        why("{f:={g:=1}}", "{}", 1000);
        why("{f:=1} ifpresent", "{f:=2}", 1000);
        Talk talk = Talk.of("template A={f:=1};template B=?;template C= =(1/0);");
        talk.keep("{f:=2}");
        talk.keep("5");
        Talk.due("not met", talk.x.met(0, 0), 0);
        steps(talk, "A", 1001);
        Talk.due("met", talk.x.met(1, 0), 1);
        steps(talk, "A still", 1001);
        Talk.due("an ERROR", talk.x.met(2, 0), -23);
        steps(talk, "A still, with an ERROR", 1001);
        Talk.due("not met, no steps", talk.x.met(0, 1), 0);
        steps(talk, "5");
    }

    /** What would take far too long, part by part. */
    private static void many() {
        StringBuilder text = new StringBuilder();
        for (int i = 0; i < 28; i++) text.append("template N" + i + "=(N" + (i + 1) + ",N" + (i + 1) + ");");
        Talk talk = Talk.of(text + "template N28=both([*],[*,N29,*]);template N29=1;");
        Talk.due("28 times two ways", talk.x.met(0, talk.keep("[2]")), 0);
        Talk.due("28 times two ways, met", talk.x.met(0, talk.keep("[2,1]")), 1);
        String perm = "?";
        for (int i = 0; i < 7; i++) perm = "[perm(" + Talk.row(i == 0 ? "1" : "?", 11) + "," + perm + ")]";
        String value = "1";
        for (int i = 0; i < 7; i++) value = "[" + Talk.row("0", 11) + "," + value + "]";
        talk = Talk.of("template A=" + perm + ";template B=[" + Talk.row("*,0", 6) + "];");
        Talk.due("perms", talk.x.met(0, talk.keep(value)), 0);
        Talk.due("rests", talk.x.met(1, talk.keep("[" + Talk.row("0", 12) + "]&[1]")), 0);
        // A templ of a statement may be deep, and name at its deepest a deep template.
        StringBuilder chain = new StringBuilder();
        for (int i = 0; i < 29; i++) chain.append("template N" + i + "=[N" + (i + 1) + "];");
        talk = Talk.of(chain + "template N29=[?];component C{var x:=1;}case k on C(){x:=" + Talk.times("[", 16) + "x" + Talk.times("]", 16) + ";x:="
            + Talk.times("[", 16) + "x" + Talk.times("]", 16) + ";x:=" + Talk.times("[", 13) + "x" + Talk.times("]", 13) + ";log met(x,"
            + Talk.times("[", 15) + "N0" + Talk.times("]", 15) + ");log met(x[0],"
            + Talk.times("[", 15) + "N0" + Talk.times("]", 15) + ");}");
        Talk.due("begins", talk.x.begin(0), 1);
        Talk.due("runs", talk.x.run(0, 9), 5);
        Talk.due("no ERROR", talk.x.state(0, 7), 0);
        Talk.due("45 lists", talk.told(talk.x.eventValue(2)), "true");
        Talk.due("44 lists", talk.told(talk.x.eventValue(3)), "false");
    }
}
