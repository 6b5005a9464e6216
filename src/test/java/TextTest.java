/** Promises 1 to 5 and 7: the text, the module and its faults. */
public final class TextTest {
    public static void main(String[] args) {
        newObject();
        feedAndEnd();
        module();
        tokens();
        faultsOfReading();
        names();
        limits();
        nests();
        nodes();
        late();
        named();
        Talk.finish();
    }

    private static void newObject() {
        MatchHouse x = new MatchHouse();
        for (int what = 0; what <= 10; what++) Talk.due("new count " + what, x.count(what), what == 1 ? MatchHouse.BAD : 0);
        Talk.due("new value", x.value(), MatchHouse.BAD);
        Talk.due("new named", x.named(), MatchHouse.BAD);
        Talk.due("new run", x.run(0, 0), MatchHouse.BAD);
        Talk.due("new bit", x.bit(0), MatchHouse.NONE);
        Talk.due("new letter", x.letter(0), MatchHouse.NONE);
        Talk.due("new why", x.why(0), MatchHouse.NONE);
        for (int m = 0; m < 4; m++) {
            for (int act = 0; act < 8; act++) Talk.due("new can", x.can(m, 0, act), 0);
            Talk.due("new can 8", x.can(m, 0, 8), 1);
        }
    }

    private static void feedAndEnd() {
        Talk talk = new Talk();
        MatchHouse x = talk.x;
        Talk.due("end of nothing", x.end(0), MatchHouse.BAD);
        for (int i = 1; i <= 600; i++) Talk.due("feed " + i, x.feed(0x20202020, 0x20202020, 0x20202020, 0x20202020, 0x20202020), 20 * i);
        Talk.due("feed above", x.feed(0, 0, 0, 0, 0), MatchHouse.FULL);
        Talk.due("text stays", x.count(2), 12_000);
        Talk.due("end -1", x.end(-1), MatchHouse.BAD);
        Talk.due("end 21", x.end(21), MatchHouse.BAD);
        Talk.due("end 20", x.end(20), 12_000);
        Talk.due("end 19", x.end(19), 11_999);
        Talk.due("feed at 11999", x.feed(0, 0, 0, 0, 0), MatchHouse.FULL);
        Talk.due("end 0", x.end(0), 11_979);
        Talk.due("end 1", x.end(1), 11_960);
        Talk.due("module of blanks", x.module(), 0);
        Talk.due("text is empty", x.count(2), 0);
        x.feed(1, 2, 3, 4, 5);
        Talk.due("end to 19", x.end(19), 19);
        Talk.due("end with 19", x.end(3), MatchHouse.BAD);
        Talk.due("19 stay", x.count(2), 19);
        // The highest byte of each number is first: 'type', ' A=i', 'nt; ', ..
        Talk order = new Talk();
        order.x.feed(0x74797065, 0x20413D69, 0x6E743B20, 0x20202020, 0x20202020);
        Talk.due("bytes in order", order.x.module(), 0);
        Talk.due("one type", order.x.count(3), 1);
    }

    private static void module() {
        Talk talk = Talk.of("type A=int;type B=bool;template T=?;component C{port p;}function f on C(){set pass;if true{}else{set fail;}}case k on C(){}");
        int[] want = {0, MatchHouse.BAD, 0, 2, 1, 1, 2, 3, 4, 0, 0};
        for (int what = 0; what <= 10; what++) Talk.due("count " + what, talk.x.count(what), want[what]);
        Talk.due("count 11", talk.x.count(11), MatchHouse.BAD);
        Talk.due("count -1", talk.x.count(-1), MatchHouse.BAD);
        talk.keep("1");
        Talk.due("a case begins", talk.x.begin(1), 1);
        Talk.due("kept", talk.x.count(9), 1);
        Talk.due("faulty", talk.module("type"), 2);
        Talk.due("no value is kept", talk.x.count(9), 0);
        Talk.due("no run", talk.x.all(0), MatchHouse.BAD);
        for (int what = 3; what <= 8; what++) Talk.due("no module, count " + what, talk.x.count(what), 0);
        Talk.due("place", talk.x.count(1), 4);
        Talk.due("no module, fits", talk.x.fits(0, 0), MatchHouse.BAD);
        Talk.due("no module, lightest", talk.x.lightest(0), MatchHouse.BAD);
        Talk.due("no module, within", talk.x.within(0, 0), MatchHouse.BAD);
        Talk.due("no module, begin", talk.x.begin(1), MatchHouse.BAD);
        Talk.due("anew", talk.module("type A=int;component C{}case k on C(){}"), 0);
        talk.keep("1");
        talk.x.begin(0);
        Talk.due("a sound one, too", talk.module("type A=int;"), 0);
        Talk.due("empties", talk.x.count(9), 0);
        Talk.due("and ends the run", talk.x.all(0), MatchHouse.BAD);
        Talk.due("bits stay", talk.x.bits(5, 3), 3);
        talk.module("");
        Talk.due("bits stay over a module", talk.x.count(10), 3);
    }

    private static void tokens() {
        Talk.sound("type abcdefghijkl=int;");
        Talk.fault(1, "type ^abcdefghijklm=int;");
        Talk.sound("type A=int(123456789012345);");
        Talk.fault(1, "type A=int(^1234567890123456);");
        Talk.sound("template A=\"" + Talk.times("a", 40) + "\";");
        Talk.fault(1, "template A=^\"" + Talk.times("a", 41) + "\";");
        Talk.fault(1, "template A=^\"abc");
        Talk.fault(1, "template A=^\"a\nb\";");
        Talk.fault(1, "template A=^\"a\u007fb\";");
        Talk.fault(1, "template A=^$;");
        Talk.fault(1, "template A=^|;");
        Talk.fault(1, "template ^_A=1;");
        Talk.fault(1, "^\u0001");
        Talk.sound("type A_9z=int;#\ntype B=int;\t\r\n # type C");
        Talk.fault(2, "type A=int#;\n^");
        Talk.fault(2, "type A=int(1..2^.3);");
        Talk.sound("type A=int(1..2,- 5 .. -3,-0);");
        Talk.sound("template A= =((1==2)!=(3<=4)||true&&1>=2);");
        Talk.fault(2, "template A^==(1);");
    }

    private static void faultsOfReading() {
        Talk.fault(2, "^int");
        Talk.fault(2, "type ^record=int;");
        Talk.fault(2, "type A ^int;");
        Talk.fault(2, "type A=int^");
        Talk.fault(2, "type A=text(^);");
        Talk.fault(2, "type A=enum{^};");
        Talk.fault(2, "type A=choice{^};");
        Talk.sound("type A=record{};");
        Talk.fault(2, "type A=record{f:int,^};");
        Talk.fault(2, "type A=choice{f:int ^optional};");
        Talk.fault(2, "type A=list ^int;");
        Talk.fault(2, "template A=^;");
        Talk.fault(2, "template A=(^);");
        Talk.fault(2, "template A=^perm(1);");
        Talk.fault(2, "template A=[perm(^perm(1))];");
        Talk.fault(2, "template A=pattern ^1;");
        Talk.fault(2, "template A=? ifpresent ^length(1);");
        Talk.sound("template A=@f ? length(1) ifpresent length(2) ifpresent;");
        Talk.fault(2, "component C{^x}");
        Talk.fault(2, "component C{}case k on C(^a){}");
        Talk.sound("component C{}function k on C(a,b){}altstep l on C(a){}");
        Talk.fault(2, "component C{}function f on C(){^step f();}");
        Talk.fault(2, "component C{}function f on C(){alt{[]^log 1;}}");
        Talk.fault(2, "component C{}altstep f on C(){^set pass;}");
        Talk.fault(2, "component C{port p;}function f on C(){alt{[]receive p ?^;}}");
        Talk.fault(2, "component C{}function f on C(){set ^error;}");
        Talk.fault(2, "component C{}function f on C(){if true{}else ^if true{}}");
        Talk.fault(2, "component C{}function f on C(){create C^;}");
        Talk.fault(2, "template A= =(1<2^<3);");
        Talk.sound("template A= =(1<2&&2<3);");
        Talk.fault(2, "template A= =([1,^]);");
        Talk.fault(2, "template A= =({^1:=1});");
        Talk.fault(2, "template A= =({f^=1});");
        Talk.fault(2, "template A= =({f:=1}.^1);");
        Talk.fault(2, "template A= =(@^1 1);");
        Talk.fault(2, "template A= =(1+^);");
        Talk.fault(2, "template A= =(-^);");
        Talk.fault(2, "template A={^1:=1};");
        Talk.fault(2, "template A=@^1 1;");
        Talk.fault(2, "template A=[^,1];");
        Talk.fault(2, "template ^=1;");
        Talk.fault(2, "type A=^;");
        Talk.fault(2, "type A=enum{^1};");
        Talk.fault(2, "type A=record{^1:int};");
        Talk.fault(2, "type A=record{f:^};");
        Talk.fault(2, "type A=int(^..1);");
        Talk.fault(2, "type A=int(1..^);");
        Talk.fault(2, "type A=int(-^);");
        Talk.fault(2, "type A=text(1..^..);");
        Talk.fault(2, "template A=1..^;");
        Talk.fault(2, "component ^{}");
        Talk.fault(2, "component C^;");
        Talk.fault(2, "component C{port ^1;}");
        Talk.fault(2, "component C{var x:^1:=1;}");
        Talk.fault(2, "component C{var x^=1;}");
        Talk.fault(2, "component C{}function f ^C(){}");
        Talk.fault(2, "component C{}function f on ^1(){}");
        Talk.fault(2, "component C{}function f on C(^1){}");
        Talk.fault(2, "component C{}function f on C(a,^){}");
        Talk.fault(2, "component C{}function f on C()^;");
        Talk.fault(2, "component C{}altstep f on C()^;");
        Talk.fault(2, "component C{}function f on C(){var ^1:=1;}");
        Talk.fault(2, "component C{}function f on C(){var a:=^;}");
        Talk.fault(2, "component C{}function f on C(){call ^1();}");
        Talk.fault(2, "component C{}function f on C(){call f^;}");
        Talk.fault(2, "component C{}function f on C(){call f(1,^);}");
        Talk.fault(2, "component C{}function f on C(){call f() into ^1;}");
        Talk.fault(2, "component C{}function f on C(){send ^1 1;}");
        Talk.fault(2, "component C{}function f on C(){receive ^1 1;}");
        Talk.fault(2, "component C{}function f on C(){timeout ^1;}");
        Talk.fault(2, "component C{}function f on C(){done ^;}");
        Talk.fault(2, "component C{}function f on C(){start me ^f();}");
        Talk.fault(2, "component C{port p;}function f on C(){connect me at p ^me at p;}");
        Talk.fault(2, "component C{}function f on C(){connect me at ^1 with me at p;}");
        Talk.fault(2, "component C{}function f on C(){log 1^}");
        Talk.fault(2, "component C{}function f on C(){if true ^log 1;}");
        Talk.fault(2, "component C{}function f on C(){alt ^1;}");
        Talk.fault(2, "component C{}function f on C(){alt{[true ^done me{}}}");
        Talk.fault(2, "component C{}function f on C(){alt{^done me{}}}");
        Talk.fault(2, "component C{}function f on C(){alt{[]step f()^}}");
        Talk.fault(2, "component C{var x:=1;}function f on C(){x^;}");
        Talk.fault(2, "component C{var x:=1;}function f on C(){x.^1:=1;}");
        Talk.fault(2, "component C{var x:=1;}function f on C(){x[^]:=1;}");
        Talk.fault(2, "component C{}function f on C(){log met(1^);}");
        Talk.fault(2, "component C{}function f on C(){log met(1,^);}");
        Talk.fault(2, "component C{}function f on C(){log ended ^1;}");
        Talk.fault(2, "template A= =(active ^1);");
    }

    private static void names() {
        Talk.fault(3, "type A=int;type ^A=int;");
        Talk.fault(3, "type A=int;template ^A=?;");
        Talk.fault(3, "component A{}case ^A on A(){}");
        Talk.fault(3, "component C{port p;timer ^p;}");
        Talk.fault(3, "component C{timer p;var ^p:=1;}");
        Talk.fault(3, "component C{}function f on C(a,^a){}");
        Talk.fault(3, "component C{}function f on C(a){var ^a:=1;}");
        Talk.fault(3, "component C{}function f on C(){if true{var a:=1;}else{var ^a:=1;}}");
        Talk.fault(3, "component C{var x:=1;}function f on C(^x){}");
        Talk.fault(3, "component C{port x;}function f on C(){var ^x:=1;}");
        Talk.fault(3, "component C{timer x;}case f on C(){var ^x:=1;}");
        Talk.sound("function f on C(x){log x;}component C{var x:=1;}");
        Talk.sound("component C{port p;}component D{port p;}type p=int;");
        Talk.fault(3, "type A=enum{a,^a};");
        Talk.sound("type A=enum{a};type B=enum{a};");
        Talk.fault(3, "type A=record{f:int,^f:int};");
        Talk.fault(3, "type A=choice{f:int,^f:int};");
        Talk.fault(3, "template A={f:=1,^f:=1};");
        Talk.fault(3, "template A= =({f:=1,^f:=1});");
    }

    private static String items(String head, int n, String tail) {
        StringBuilder all = new StringBuilder();
        for (int i = 0; i < n; i++) all.append(i == n - 1 && n > 1 ? head + "^" : head).append("N").append(i).append(tail);
        return all.toString();
    }

    private static void limit(int most, String ahead, String head, String tail, String behind) {
        Talk.sound((ahead + items(head, most, tail) + behind).replace("^", ""));
        Talk.fault(5, ahead + items(head, most + 1, tail) + behind);
    }

    /** most parts go, of one more the first token is the fault. */
    private static void row(int most, String ahead, String part, String behind) {
        Talk.sound(ahead + Talk.row(part, most) + behind);
        Talk.fault(5, ahead + Talk.row(part, most) + ",^" + part + behind);
    }

    private static void limits() {
        limit(60, "", "type ", "=int;", "");
        limit(60, "", "template ", "=?;", "");
        limit(8, "", "component ", "{}", "");
        limit(40, "component C{}", "function ", " on C(){}", "");
        limit(6, "component C{", "port ", ";", "}");
        limit(4, "component C{", "timer ", ";", "}");
        limit(8, "component C{", "var ", ":=1;", "}");
        limit(7, "component C{}function f on C(a){", "var ", ":=1;", "}");
        Talk.sound("component C{}function f on C(" + Talk.numbered("p", 8, "") + "){}");
        Talk.fault(5, "component C{}function f on C(" + Talk.numbered("p", 8, "") + ",^q){}");
        Talk.sound("type A=enum{" + Talk.numbered("w", 16, "") + "};");
        Talk.fault(5, "type A=enum{" + Talk.numbered("w", 16, "") + ",^w};");
        Talk.sound("type A=record{" + Talk.numbered("w", 16, ":int") + "};");
        Talk.fault(5, "type A=record{" + Talk.numbered("w", 16, ":int") + ",^w:int};");
        Talk.fault(5, "type A=choice{" + Talk.numbered("w", 16, ":int") + ",^w:int};");
        Talk.sound("template A={" + Talk.numbered("w", 16, ":=?") + "};");
        Talk.fault(5, "template A={" + Talk.numbered("w", 16, ":=?") + ",^w:=?};");
        Talk.fault(5, "template A= =({" + Talk.numbered("w", 16, ":=1") + ",^w:=1});");
        row(6, "type A=int(", "1", ");");
        row(12, "template A=(", "?", ");");
        row(12, "template A=not(", "?", ");");
        row(12, "template A=both(", "?", ");");
        row(12, "template A=subset(", "?", ");");
        row(12, "template A=superset(", "?", ");");
        row(12, "template A=[", "?", "];");
        row(12, "template A=[", "perm(?)", "];");
        row(12, "template A=[perm(", "?", ")];");
        row(12, "template A= =([", "1", "]);");
        Talk.fault(5, "component C{}function f on C(){call f(" + Talk.row("1", 12) + ",^1);}");
        Talk.fault(2, "template A=(" + Talk.row("?", 12) + ",^);");
        Talk.sound("component C{}function f on C(){" + Talk.times("set pass;", 400) + "}");
        Talk.fault(5, "component C{}function f on C(){" + Talk.times("set pass;", 400) + "^set pass;}");
        Talk.fault(5, "component C{}function f on C(){alt{" + Talk.times("[else]{}", 399) + "^[else]{}}}");
        Talk.sound("type A=text(40);type B=text(0..40);type C=list(16)of int;template T=? length(40);");
        Talk.fault(5, "type A=text(^41);");
        Talk.fault(5, "type A=text(0..^41);");
        Talk.fault(5, "type A=list(^17)of int;");
        Talk.fault(5, "template A=? length(^41);");
        Talk.fault(5, "type A=text(3..^2);");
        Talk.fault(5, "type A=int(3..^2);");
        Talk.fault(5, "type A=int(3..-^3);");
        Talk.sound("type A=int(3..3,-3..-3);");
        Talk.fault(5, "template A=-3..-^4;");
    }

    private static void nest(String ahead, String open, String core, String close, String behind) {
        Talk.sound(ahead + Talk.times(open, 16) + core + Talk.times(close, 16) + behind);
        Talk.fault(5, ahead + Talk.times(open, 17) + "^" + core + Talk.times(close, 17) + behind);
    }

    private static void nests() {
        nest("template A= =", "(", "1", ")", ";");
        nest("template A=", "(", "1", ")", ";");
        nest("template A=", "[perm(", "1", ")]", ";");
        nest("template A=", "@f ", "1", "", ";");
        nest("template A=", "[", "1", "]", ";");
        nest("template A=", "{f:=", "1", "}", ";");
        nest("template A=", "not(", "1", ")", ";");
        nest("template A=", "subset(", "1", ")", ";");
        nest("component C{var x:=", "{f:=", "1", "}", ";}");
        nest("component C{var x:=", "1+(", "1", ")", ";}");
        Talk.sound("component C{var x:=" + Talk.times("1[", 16) + "1" + Talk.times("]", 16) + ";}");
        Talk.fault(5, "component C{var x:=" + Talk.times("1[", 17) + "^1" + Talk.times("]", 17) + ";}");
        nest("component C{var x:=", "ended(", "1", ")", ";}");
        nest("component C{var x:=", "met(", "1", ",?)", ";}");
        nest("component C{port p;}function f on C(){receive p ", "(", "1", ")", ";}");
        nest("component C{}function f on C(){log ", "(", "1", ")", ";}");
        nest("type A=", "choice{f:", "int", "}", ";");
        nest("component C{}function f on C()", "{while true", "{}", "}", "");
        nest("type A=", "list of ", "int", "", ";");
        nest("type A=", "record{f:", "int", "}", ";");
        nest("component C{}function f on C()", "{if true", "{}", "}", "");
        nest("component C{var x:=", "[", "1", "]", ";}");
        // The exp stands within the templ, the templ within the exp.
        Talk.sound("component C{var x:=" + Talk.times("met(1,=(", 8) + "1" + Talk.times("))", 8) + ";}");
        Talk.fault(5, "component C{var x:=" + Talk.times("met(1,=(", 8) + "(^1)" + Talk.times("))", 8) + ";}");
        Talk.sound("component C{}function f on C(){" + Talk.times("alt{[]done me{", 8) + Talk.times("}}", 8) + "}");
        Talk.fault(5, "component C{}function f on C(){" + Talk.times("alt{[]done me{", 8) + "alt^{}" + Talk.times("}}", 8) + "}");
        Talk.fault(5, "component C{}function f on C(){" + Talk.times("if true{", 15) + "if true{}else{if true^{}}" + Talk.times("}", 15) + "}");
        // alts are blocks, too: 1 and 8 times alt and branch are 17.
        Talk.sound("component C{}function f on C(){" + Talk.times("alt{[else]{", 8) + Talk.times("}}", 8) + "}");
        Talk.fault(5, "component C{}function f on C(){" + Talk.times("alt{[else]{", 8) + "if true^{}" + Talk.times("}}", 8) + "}");
        Talk.sound("component C{}function f on C(){log " + Talk.times("-", 2_000) + "1;}");
    }

    private static void nodes() {
        // type, field, field's type, range; tone, WORD :=, tone; base, operator, base.
        Talk talk = Talk.of("type A=record{f:int(1,2..3)};template T={f:=[perm(1)]};component C{var x:= - 1+@f{g:=[2]}.g[0];}");
        Talk.due("nodes", talk.x.count(8), 5 + 5 + 11);
        talk = Talk.of("component C{var x:=1;}function f on C(){var a:=1;x.f[0]:=2;}");
        Talk.due("nodes of statements", talk.x.count(8), 6);
        Talk.sound("template T=?;component C{var x:=" + Talk.times("-", 2_998) + "1;}");
        Talk.due("3,000", Talk.of("template T=?;component C{var x:=" + Talk.times("-", 2_998) + "1;}").x.count(8), 3_000);
        Talk.fault(5, "template T=?;component C{var x:=" + Talk.times("-", 2_999) + "^1;}");
        Talk.fault(5, "component C{var x:=" + Talk.times("1+", 1_500) + "^1;}");
        Talk.fault(5, "component C{var x:=1;}function f on C(){x" + Talk.times(".f", 2_999) + "^.f:=1;}");
    }

    private static void late() {
        Talk.fault(4, "type A=^B;");
        Talk.fault(4, "template B=?;type A=^B;");
        Talk.sound("type A=B;type B=int;");
        Talk.fault(4, "case k on ^C(){}");
        Talk.fault(4, "component C{var x:^T:=1;}");
        Talk.fault(4, "component C{}component D{port p;}function f on C(){send ^p 1;}");
        Talk.fault(4, "component C{port p;}function f on C(){begin ^p 1;}");
        Talk.fault(4, "component C{timer t;}function f on C(){receive ^t ?;}");
        Talk.sound("component C{var x:=active t;timer t;}");
        Talk.fault(4, "component C{port p;}component D{}function f on D(){connect me at p with me at ^q;}");
        Talk.fault(4, "component C{}altstep g on C(){}function f on C(){call ^g();}");
        Talk.fault(4, "component C{}case g on C(){}function f on C(){call ^g();}");
        Talk.fault(4, "component C{}component D{}function g on D(){}function f on C(){call ^g();}");
        Talk.sound("component C{}component D{}function g on D(){}function f on C(){start me as g();}");
        Talk.fault(4, "component C{}altstep g on C(){}function f on C(){start me as ^g();}");
        Talk.fault(4, "component C{}component D{}altstep g on D(){}function f on C(){usual ^g();}");
        Talk.fault(4, "component C{}function g on C(){}function f on C(){alt{[]step ^g();}}");
        Talk.fault(4, "component C{}function f on C(){call ^g();}");
        Talk.fault(4, "component C{}function f on C(){start me as ^g();}");
        Talk.fault(4, "component C{}function f on C(){usual ^g();}");
        Talk.fault(4, "component C{}altstep f on C(){[]step ^g();}");
        Talk.fault(4, "component C{}function f on C(){log ^x;}");
        Talk.fault(4, "component C{}function f on C(){log ^x;var x:=1;}");
        Talk.fault(4, "component C{}function f on C(){var x:=^x;}");
        Talk.sound("function f on C(){var x:=x;}component C{var x:=1;}");
        Talk.fault(4, "component C{var x:=^y;var y:=1;}");
        Talk.sound("component C{var y:=1;var x:=y;}");
        Talk.sound("type E=enum{red};component C{var x:=red;}template T=red;");
        Talk.fault(4, "type E=enum{red};component C{}function f on C(){^red:=1;}");
        Talk.fault(4, "type E=enum{red};component C{port p;}function f on C(){receive p ? into ^red;}");
        Talk.fault(4, "component C{port p;var x:=1;}function f on C(){receive p ^x;}");
        for (String word : new String[] {"me", "now", "verdict", "ended(1)", "active t", "met(1,?)"}) {
            Talk.fault(4, "component C{timer t;}template T= =(1+^" + word + ");");
            Talk.sound("component C{timer t;var x:=" + word + ";}");
        }
        Talk.fault(4, "component C{var x:=1;}template T= =(^x);");
        Talk.fault(6, "component C{}function g on C(a){}function f on C(){call ^g();}");
        Talk.fault(6, "component C{}function g on C(a){}function f on C(){start me as ^g(1,2);}");
        Talk.fault(6, "component C{}altstep g on C(a){}function f on C(){usual ^g();}");
        Talk.fault(6, "component C{}altstep g on C(){[]step ^g(1);}");
        Talk.fault(7, "type ^A=A;");
        Talk.fault(7, "type C=A;type ^A=B;type B=A;");
        Talk.sound("type A=B;type B=list of A;");
        Talk.fault(7, "template ^A=A;");
        Talk.fault(7, "template ^A=B;template B={f:=B};");
        StringBuilder chain = new StringBuilder();
        for (int i = 0; i < 59; i++) chain.append("template N" + i + "=N" + (i + 1) + ";");
        Talk.sound(chain + "template N59=?;");
        Talk.fault(7, "template ^" + chain.substring(9) + "template N59=(?);");
        Talk.sound(chain.toString().replace("N58=N59", "N58= =(((1)))") + "template N59=(?);");
        for (String deep : new String[] {"{f:=N1}", "@f N1", "[1,N1]", "not(N1)", "both(1,N1)", "subset(N1)", "superset(N1)", "N1 length(1)"}) {
            String changed = chain.toString().replace("N0=N1", "N0=" + deep);
            if (deep.indexOf("length") < 0) Talk.fault(7, "template ^" + changed.substring(9) + "template N59=?;");
            else Talk.sound(changed + "template N59=?;");
            Talk.sound(changed.replace("N58=N59", "N58=?"));
        }
        Talk.fault(7, "template ^" + chain.toString().replace("N57=N58", "N57=[perm(?)]").replace("N0=N1", "N0=(N1)").substring(9));
        // The least place counts, and a fault of reading ahead of all.
        Talk.fault(6, "component C{}function g on C(a){}function f on C(){call ^g();log x;}type A=A;");
        Talk.fault(7, "type ^A=A;component C{}function f on C(){log x;}");
        Talk.fault(2, "type A=B;^?");
    }

    private static void named() {
        Talk talk = Talk.of("type U=int;type T=int;template x=?;component C{}function f on C(){}altstep g on C(){}case k on C(){}");
        Talk.due("named T", talk.named("T"), 1);
        Talk.due("named U", talk.named(" U #"), 0);
        Talk.due("named x", talk.named("x"), 100);
        Talk.due("named C", talk.named("C"), 200);
        Talk.due("named f", talk.named("f"), 300);
        Talk.due("named k", talk.named("k"), 302);
        String[] none = {"y", "T T", "", "int", "1", "T;", "\"T\"", "abcdefghijklm", "$"};
        for (String text : none) {
            Talk.due("named " + text, talk.named(text), MatchHouse.NONE);
            Talk.due("text behind named", talk.x.count(2), 0);
        }
        Talk.due("y is no word of the module", talk.value("{y:=1}"), -14);
        Talk.due("fault of value", talk.x.count(0), 4);
        talk.named("T");
        Talk.due("named is no reading", talk.x.count(0), 4);
        Talk.due("bad module", talk.module("x"), 2);
        talk.feed("T");
        Talk.due("no module", talk.x.named(), MatchHouse.BAD);
        Talk.due("text stays", talk.x.count(2), 1);
    }
}
