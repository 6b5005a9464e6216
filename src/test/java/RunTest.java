/** Promises 24 to 35: runs. */
public final class RunTest {
    public static void main(String[] args) {
        begin();
        steps();
        exps();
        assignments();
        assignmentErrors();
        calls();
        frames();
        sending();
        queues();
        from();
        timers();
        components();
        connecting();
        stopping();
        alternatives();
        altsteps();
        altstepsWithEightFrames();
        usualWays();
        taking();
        judgements();
        log();
        variables();
        clock();
        canGoOn();
        bad();
        Talk.finish();
    }

    /** A case k on C that has begun; `own` is of C. */
    private static Talk begun(String own, String statements, String others) {
        Talk talk = Talk.of("type N=int(0..9);type W=record{f:int,g:int,h:int};component C{" + own + "}case k on C(){" + statements + "}" + others);
        Talk.due("begin of " + statements, talk.x.begin(talk.named("k") - 300), 1);
        return talk;
    }

    /** The log from event `from` on: sort/component/what=VALUE. */
    private static String log(Talk talk, int from) {
        StringBuilder text = new StringBuilder();
        for (int k = from; k < talk.x.all(3); k++) {
            text.append(k == from ? "" : " ").append(talk.x.event(k, 0)).append('/').append(talk.x.event(k, 1)).append('/').append(talk.x.event(k, 2));
            int v = talk.x.eventValue(k);
            if (v >= 0) {
                text.append('=').append(talk.told(v));
                talk.x.drop();
            }
        }
        return text.toString();
    }

    /** What a run of a case logs behind 8/0/0 9/0/0, for up to so many STEPS of component 0. */
    private static void logs(String own, String statements, String others, int done, String want) {
        Talk talk = begun(own, statements, others);
        Talk.due("steps of " + statements, talk.x.run(0, 1_000), done);
        Talk.due("log of " + statements, log(talk, 2), want);
    }

    /** A case of which the last STEP is an ERROR; `ahead` is what is logged ahead of that. */
    private static void errs(String own, String statements, String others, int error, String ahead) {
        Talk talk = begun(own, statements, others);
        talk.x.run(0, 1_000);
        Talk.due("error of " + statements, talk.x.state(0, 7), error);
        Talk.due("log of " + statements, log(talk, 2), ahead + (ahead.isEmpty() ? "" : " ") + "7/0/" + error + " 4/0/4 6/0/0");
        Talk.due("ended", talk.x.state(0, 0), 2);
        Talk.due("judged", talk.x.state(0, 1), 4);
        Talk.due("no frames", talk.x.state(0, 3), 0);
    }

    private static void state(Talk talk, int c, int... want) {
        for (int what = 0; what < want.length; what++) Talk.due("state " + c + " " + what, talk.x.state(c, what), want[what]);
    }

    private static void begin() {
        Talk talk = Talk.of("component D{}component C{var x:=1;var y:=x+1;var z:=me;var w:N:=y;}type N=int(2);case k on C(){set pass;}function f on C(){}"
            + "altstep a on C(){}component E{var a:=1;var b:=1/0;var c:=2;}case l on E(){}component F{var a:N:=3;}case m on F(){}case e on D(){}");
        MatchHouse x = talk.x;
        Talk.due("a function", x.begin(1), MatchHouse.BAD);
        Talk.due("an altstep", x.begin(2), MatchHouse.BAD);
        Talk.due("none", x.begin(6), MatchHouse.BAD);
        Talk.due("none", x.begin(-1), MatchHouse.BAD);
        Talk.due("no run yet", x.all(0), MatchHouse.BAD);
        Talk.due("begin", x.begin(0), 1);
        state(talk, 0, 1, 0, 1, 1, 0, 0, 0, 0, MatchHouse.BAD);
        Talk.due("log", log(talk, 0), "8/0/1 9/0/0");
        Talk.due("y", talk.told(x.variable(0, 1)), "2");
        Talk.due("z", talk.told(x.variable(0, 2)), "#0");
        Talk.due("time", x.all(1), 0);
        x.clock(5);
        x.run(0, 9);
        Talk.due("an ERROR in the vars", x.begin(3), 0);
        state(talk, 0, 2, 4, 2, 0, MatchHouse.NONE, 0, 0, 3);
        Talk.due("log", log(talk, 0), "8/0/2 7/0/3 4/0/4 6/0/0");
        Talk.due("what ran is gone", x.all(1), 0);
        Talk.due("one was made", x.all(0), 1);
        Talk.due("a", talk.told(x.variable(0, 0)), "1");
        Talk.due("b", x.variable(0, 1), MatchHouse.NONE);
        Talk.due("c", x.variable(0, 2), MatchHouse.NONE);
        Talk.due("no step", x.run(0, 5), 0);
        Talk.due("does not fit", x.begin(4), 0);
        Talk.due("4", x.state(0, 7), 4);
        Talk.due("an empty case", x.begin(5), 1);
        Talk.due("log", log(talk, 0), "8/0/0 9/0/0 6/0/0");
        state(talk, 0, 2, 0, 0, 0, MatchHouse.NONE, 0, 0, 0);
        Talk.due("bad begin", x.begin(1), MatchHouse.BAD);
        Talk.due("changes nothing", x.all(3), 3);
    }

    private static void steps() {
        // 0 var, 1 while, 2 if, 3 log, 4 set, 5 a:=, 6 if, 7 log, 8 log
        Talk talk = begun("", "var a:=0;while a<2{if a==1{log a;}else{set pass;}a:=a+1;}if false{log 7;}log 8;", "");
        int[] next = {0, 1, 2, 4, 5, 1, 2, 3, 5, 1, 6, 8};
        for (int i = 0; i < next.length; i++) {
            Talk.due("next of step " + i, talk.x.state(0, 4), next[i]);
            Talk.due("steps done", talk.x.state(0, 6), i);
            Talk.due("one step", talk.x.run(0, 1), 1);
        }
        Talk.due("at the end", log(talk, 2), "4/0/1 5/0/0=1 5/0/0=8 6/0/0");
        Talk.due("no more", talk.x.run(0, 10), 0);
        state(talk, 0, 2, 1, 0, 0, MatchHouse.NONE, 0, 12, 0);
        talk = begun("", "while true{}", "");
        Talk.due("endless", talk.x.run(0, 10_000), 10_000);
        Talk.due("still there", talk.x.state(0, 4), 0);
        Talk.due("no steps", talk.x.run(0, 0), 0);
        logs("", "if true{if true{}}if false{}else{}", "", 3, "6/0/0");
        errs("", "log 1;if 1{}", "", 1, "5/0/0=1");
        errs("", "while omit{}", "", 1, "");
        logs("", "return;log 1;", "", 1, "6/0/0");
        logs("", "return 5;", "", 1, "6/0/0");
        errs("", "return 1/0;", "", 3, "");
    }

    private static void exps() {
        logs("timer t;var v:=red;", "log me;log now;log verdict;set pass;log verdict;log active t;begin t 1;log active t;log ended(me);log v;log met(5,N1);log met(omit,=(omit));",
            "type E=enum{red};template N1=1..9;", 12,
            "5/0/0=#0 5/0/0=0 5/0/0=0 4/0/1 5/0/0=1 5/0/0=false 5/0/0=true 5/0/0=false 5/0/0=red 5/0/0=true 5/0/0=true 6/0/0");
        errs("", "log omit;", "", 1, "");
        errs("", "log ended(1);", "", 1, "");
        errs("", "log met(1,=(1/0));", "", 3, "");
        errs("", "log met([][0],=(1/0));", "", 2, "");
        errs("", "log met(1,B);", "template B=(=(-true),1);", 1, "");
        // A word is a place ahead of a var, and that ahead of an enum's word.
        logs("var w:=1;", "log w;call f(2);", "function f on C(v){log v;}type E=enum{w,v};", 3, "5/0/0=1 5/0/0=2 6/0/0");
        Talk talk = Talk.of("case k on C(){var w:=2;log w;}component C{var w:=1;}");
        talk.x.begin(0);
        talk.x.run(0, 2);
        Talk.due("the place hides the var", log(talk, 2), "5/0/0=2 6/0/0");
        // A var that is not told on the way is OMIT.
        logs("", "if false{var a:=1;}log a==omit;a:=2;log a;", "", 4, "5/0/0=true 5/0/0=2 6/0/0");
    }

    private static void assigned(String start, String assignment, String want) {
        logs("", "var x:=" + start + ";" + assignment + ";log [x];", "", 3, "5/0/0=[" + want + "] 6/0/0");
    }

    private static void assignments() {
        assigned("{}", "x.f:=1", "{f:=1}");
        assigned("{h:=1,f:=2}", "x.g:=[3]", "{f:=2,g:=[3],h:=1}");
        assigned("{h:=1,f:=[2,3],g:=5}", "x.f:=1", "{f:=1,g:=5,h:=1}");
        assigned("{f:=1,g:=2}", "x.f:=omit", "{g:=2}");
        assigned("{g:=2}", "x.f:=omit", "{g:=2}");
        assigned("@f 1", "x.f:=2", "@f 2");
        assigned("@f [1,2]", "x.g:=2", "@g 2");
        assigned("@f {g:=1}", "x.f.h:=2", "@f {g:=1,h:=2}");
        assigned("[1,2]", "x[0]:=[5]", "[[5],2]");
        assigned("[1,2]", "x[2]:=3", "[1,2,3]");
        assigned("[]", "x[0]:=3", "[3]");
        assigned("[{f:=[1]},2]", "x[0].f[1]:={}", "[{f:=[1,{}]},2]");
        assigned("[[1],[2]]", "x[x[0][0]]:=x", "[[1],[[1],[2]]]");
        assigned("1", "x:={f:=x}", "{f:=1}");
        assigned("[{f:={g:=1}}]", "x[0].f.g:=omit", "[{f:={}}]");
        logs("var v:=[1];", "v[0]:=2;v[1]:=v;log v;", "", 3, "5/0/0=[2,[2]] 6/0/0");
        logs("var v:N:=1;", "v:=9;log v;var a:N:=v-1;a:=a-1;log a;", "", 5, "5/0/0=9 5/0/0=7 6/0/0");
        logs("var v:L:=[1];", "v[1]:=9;log v;", "type L=list(1..2)of N;", 2, "5/0/0=[1,9] 6/0/0");
    }

    private static void assignmentErrors() {
        String[][] rows = {
            {"1", "x.f:=1", "1"}, {"omit", "x.f:=1", "1"}, {"[]", "x.f:=1", "1"}, {"{}", "x[0]:=1", "1"}, {"@f 1", "x[0]:=1", "1"},
            {"[]", "x[1]:=1", "2"}, {"[]", "x[-1]:=1", "2"}, {"[1]", "x[0]:=omit", "1"}, {"[1]", "x[5]:=omit", "1"}, {"@f 1", "x.f:=omit", "1"},
            {"{}", "x.f.g:=1", "1"}, {"@f {}", "x.g.h:=1", "1"}, {"[1]", "x[1].f:=1", "2"}, {"[1]", "x[0].f:=1", "1"},
            {"[]", "x[true]:=1/0", "1"}, {"[]", "x[1/0]:=-true", "3"}, {"[]", "x[true][1/0]:=1", "1"}, {"[]", "x[1/0][true]:=1", "3"},
            {"[]", "x[9]:=1/0", "3"}, {"1", "x.f:=1/0", "3"}, {"[]", "x[9].f:=omit", "2"}, {"{}", "x[0].f:=1", "1"}, {"1", "x[0][0]:=1", "1"}, {"[1]", "x[-1].f:=1", "2"},
            {"[1,2,3,4,5,6,7,8]&[1,2,3,4,5,6,7,8]", "x[16]:=1", "3"}, {"[1,2,3,4,5,6,7,8]&[1,2,3,4,5,6,7,8]", "x[17]:=1", "2"}};
        for (String[] row : rows) errs("", "var x:=" + row[0] + ";" + row[1] + ";", "", Integer.parseInt(row[2]), "");
        errs("var v:N:=1;", "v:=10;", "", 4, "");
        errs("var v:N:=1;", "v:=omit;", "", 4, "");
        errs("", "var a:N:=10;", "", 4, "");
        errs("", "var a:N:=omit;", "", 4, "");
        errs("", "var a:=10;var b:N:=1;b:=a;", "", 4, "");
        errs("var v:L:=[1];", "v[0]:=10;", "type L=list(1..2)of N;", 4, "");
        errs("var v:L:=[1];", "v[1]:=1;v[2]:=1;", "type L=list(1..2)of N;", 4, "");
        errs("var v:R:={f:=1};", "v.f:=omit;", "type R=record{f:int};", 4, "");
        // 1 and 7 times 17 are 120.
        String heavy = "var x:=[1,2,3,4,5,6,7,8]&[1,2,3,4,5,6,7,8];x:=[x,x,x,x,x,x,x];";
        logs("", heavy + "log size x;x[0][0]:=omit==1;log size x;", "", 5, "5/0/0=7 5/0/0=7 6/0/0");
        errs("", heavy + "x[0][0]:=[1];", "", 3, "");
        errs("", heavy + "x[7]:=1;", "", 3, "");
        errs("", heavy + "log {f:=x};", "", 3, "");
        // What was there stays.
        Talk talk = begun("var v:=[1];", "v[0]:=2;v[3]:=1;", "");
        talk.x.run(0, 9);
        Talk.due("v", talk.told(talk.x.variable(0, 0)), "[2]");
    }

    private static void calls() {
        String f = "function f on C(a,b){return a-b;}function g on C(){log 1;}function h on C(){}function i on C(a){if a>0{call i(a-1);}log a;}";
        logs("var v:=0;", "var a:=1;call f(5,a) into v;log v;call f(v,v) into a;log a;", f, 7, "5/0/0=4 5/0/0=0 6/0/0");
        logs("var v:=0;", "call g() into v;log v==omit;call h() into v;log v==omit;call f(1,2);", f, 7, "5/0/0=1 5/0/0=true 5/0/0=true 6/0/0");
        logs("", "call i(2);log 9;", f, 10, "5/0/0=0 5/0/0=1 5/0/0=2 5/0/0=9 6/0/0");
        logs("", "call j(omit,[1]);", "function j on C(a,b){log a==omit;log b;var c:=a;b:=c;log b==omit;}", 6, "5/0/0=true 5/0/0=[1] 5/0/0=true 6/0/0");
        errs("var v:N:=0;", "call f(9,0) into v;log v;call f(9,10) into v;", f, 4, "5/0/0=9");
        errs("var v:N:=0;", "call g() into v;", f, 4, "5/0/0=1");
        errs("var v:N:=0;", "call h() into v;", f, 4, "");
        errs("var v:N:=0;", "call r() into v;", "function r on C(){return;}", 4, "");
        errs("", "call f(1/0,-true);", f, 3, "");
        // Places are the function's own.
        logs("", "var a:=1;call f2(2);log a;", "function f2 on C(a){a:=a+1;log a;}", 5, "5/0/0=3 5/0/0=1 6/0/0");
        Talk talk = begun("var v:N:=0;", "call r() into v;", "function r on C(){return omit;}");
        Talk.due("the call is well", talk.x.run(0, 1), 1);
        state(talk, 0, 1, 0, 0, 2, 1, 0, 1, 0);
        Talk.due("the return is not", talk.x.run(0, 1), 1);
        state(talk, 0, 2, 4, 0, 0, MatchHouse.NONE, 0, 2, 4);
    }

    private static void frames() {
        Talk talk = begun("", "call f(7);log 99;", "function f on C(n){if n>1{call f(n-1);}log n;}");
        Talk.due("8 frames", talk.x.run(0, 14), 14);
        Talk.due("frames", talk.x.state(0, 3), 8);
        Talk.due("n", talk.told(talk.x.variable(0, 100)), "1");
        Talk.due("back", talk.x.run(0, 100), 8);
        Talk.due("ended", talk.x.state(0, 0), 2);
        errs("", "call f(8);", "function f on C(n){if n>1{call f(n-1);}log n;}", 7, "");
        errs("", "call f(8);", "function f on C(n){if n>1{call f(n-1);}else{call f(1/0);}}", 7, "");
        errs("", "call f(7);", "function f on C(n){if n>1{call f(n-1);}else{call f(1/0);}}", 3, "");
    }

    private static void sending() {
        logs("port p;", "send p 1;send p {f:=[me]};", "", 2, "0/0/0=1 0/0/0={f:=[#0]} 6/0/0");
        errs("port p;", "send p omit;", "", 1, "");
        errs("port p;", "send p 1/0;", "", 3, "");
        Talk talk = begun("port p;port q;var d:=0;", "create D into d;connect me at q with d at r;" + Talk.times("send q 5;", 9) + "send p 6;stop d;send q 7;",
            "component D{port s;port r;}");
        Talk.due("to one that is FRESH", talk.x.run(0, 11), 11);
        Talk.due("8 at most", talk.x.queue(1, 1), 8);
        Talk.due("none elsewhere", talk.x.queue(1, 0), 0);
        Talk.due("the ninth is sent, too", log(talk, 2), "8/1/1" + Talk.times(" 1/0/1=5", 9));
        Talk.due("sent out", talk.x.all(4), 0);
        Talk.due("to the end", talk.x.run(0, 9), 3);
        Talk.due("sent out", talk.x.all(4), 1);
        Talk.due("log", log(talk, 12), "0/0/0=6 6/1/0 1/0/1=7 6/0/0");
        Talk.due("it keeps its queue", talk.x.queue(1, 1), 8);
        Talk.due("value", talk.told(talk.x.queued(1, 1, 7)), "5");
        // To one that has ended.
        talk = begun("port p;var d:=0;", "create D into d;connect me at p with d at p;stop d;send p 1;send p 2;", "component D{port p;}");
        talk.x.run(0, 9);
        Talk.due("two are there", talk.x.queue(1, 0), 2);
        // To itself.
        logs("port p;port q;", "connect me at p with me at p;send p 1;receive p 1 from me;connect me at q with me at q;send q 2;receive q ?;", "", 6,
            "1/0/0=1 2/0/0=1 1/0/1=2 2/0/1=2 6/0/0");
    }

    private static void queues() {
        Talk talk = begun("port p;port q;", "receive q 2;receive p ?;receive p *;receive p [?];", "");
        int one = talk.keep("1");
        int two = talk.keep("[2]");
        int three = talk.keep("omit");
        Talk.due("give", talk.x.give(0, 0, one), 1);
        for (int i = 1; i < 8; i++) Talk.due("give " + i, talk.x.give(0, 0, two), 1);
        Talk.due("full", talk.x.give(0, 0, two), 0);
        Talk.due("8", talk.x.queue(0, 0), 8);
        Talk.due("omit", talk.x.give(0, 1, three), MatchHouse.BAD);
        int me = talk.x.count(9);
        Talk.due("no port", talk.x.give(0, 2, one), MatchHouse.BAD);
        Talk.due("no port", talk.x.give(0, -1, one), MatchHouse.BAD);
        Talk.due("no component", talk.x.give(1, 0, one), MatchHouse.BAD);
        Talk.due("no component", talk.x.give(-1, 0, one), MatchHouse.BAD);
        Talk.due("no value", talk.x.give(0, 1, me), MatchHouse.BAD);
        Talk.due("waits", talk.x.run(0, 10), 0);
        Talk.due("another", talk.x.give(0, 1, one), 1);
        Talk.due("waits", talk.x.run(0, 10), 0);
        Talk.due("the first one counts", talk.x.give(0, 1, talk.keep("2")), 1);
        Talk.due("waits", talk.x.run(0, 10), 0);
        Talk.due("queued", talk.told(talk.x.queued(0, 1, 1)), "2");
        Talk.due("queued -1", talk.x.queued(0, 1, -1), MatchHouse.NONE);
        Talk.due("queued 2", talk.x.queued(0, 1, 2), MatchHouse.NONE);
        Talk.due("queued, no port", talk.x.queued(0, 2, 0), MatchHouse.BAD);
        Talk.due("queued, no component", talk.x.queued(1, 0, 0), MatchHouse.BAD);
        Talk.due("queue, no port", talk.x.queue(0, 2), MatchHouse.BAD);
        Talk.due("queue, no component", talk.x.queue(1, 0), MatchHouse.BAD);
        // A component in a VALUE does not come from outside.
        talk = begun("port p;var v:=[{f:=me}];", "receive p ?;receive p ?;receive p ?;", "");
        int v = talk.x.variable(0, 0);
        Talk.due("with a component", talk.x.give(0, 0, v), MatchHouse.BAD);
        for (int i = 0; i < 6; i++) talk.x.give(0, 0, talk.keep("" + i));
        Talk.due("three", talk.x.run(0, 9), 3);
        Talk.due("in order", log(talk, 2), "2/0/0=0 2/0/0=1 2/0/0=2 6/0/0");
        Talk.due("what is left", talk.told(talk.x.queued(0, 0, 0)), "3");
        for (int i = 6; i < 11; i++) Talk.due("give " + i, talk.x.give(0, 0, talk.keep("" + i)), 1);
        Talk.due("full, with a component", talk.x.give(0, 0, v), MatchHouse.BAD);
        StringBuilder all = new StringBuilder();
        for (int i = 0; i < 8; i++) all.append(talk.told(talk.x.queued(0, 0, i))).append(' ');
        Talk.due("round the queue", all.toString(), "3 4 5 6 7 8 9 10 ");
        while (talk.x.count(9) < 40) talk.keep("0");
        Talk.due("no more is kept", talk.x.queued(0, 0, 0), MatchHouse.FULL);
        Talk.due("none ahead of full", talk.x.queued(0, 0, 8), MatchHouse.NONE);
        Talk.due("no more is kept", talk.x.variable(0, 0), MatchHouse.FULL);
        Talk.due("none ahead of full", talk.x.variable(0, 1), MatchHouse.NONE);
        Talk.due("no more is kept", talk.x.eventValue(2), MatchHouse.FULL);
        Talk.due("none ahead of full", talk.x.eventValue(0), MatchHouse.NONE);
    }

    private static void from() {
        String d = "component D{port p;}function f on D(){send p me;}";
        Talk talk = begun("port p;var d:=0;var e:=0;", "create D into d;create D into e;connect me at p with d at p;start d as f();receive p ? from e;", d);
        talk.x.run(0, 9);
        talk.x.run(1, 9);
        Talk.due("from another", talk.x.run(0, 9), 0);
        talk = begun("port p;var d:=0;", "create D into d;connect me at p with d at p;start d as f();receive p =(d) from d;log 1;", d);
        talk.x.run(0, 9);
        talk.x.run(1, 9);
        Talk.due("from it", talk.x.run(0, 9), 2);
        // From outside: from no component.
        talk = begun("port p;", "receive p ? from me;", "");
        talk.x.give(0, 0, talk.keep("1"));
        Talk.due("from outside", talk.x.run(0, 9), 0);
        // With nothing in the queue nothing is worked out; else the exp behind from is, and is to be a component.
        talk = begun("port p;", "alt{[]receive p =(1/0) from 1{}[]receive p =(-true){}}", "");
        Talk.due("nothing there", talk.x.run(0, 9), 0);
        talk.x.give(0, 0, talk.keep("1"));
        Talk.due("an error", talk.x.run(0, 9), 1);
        Talk.due("1", talk.x.state(0, 7), 1);
        talk = begun("port p;", "alt{[]receive p =(1/0) from me{}[]receive p =(-true){}}", "");
        talk.x.give(0, 0, talk.keep("1"));
        Talk.due("an error", talk.x.run(0, 9), 1);
        Talk.due("that of the second branch", talk.x.state(0, 7), 1);
    }

    private static void timers() {
        Talk talk = begun("timer t;timer u;", "begin t 3;begin u 1000000000;log active t;halt u;timeout t;log active t;timeout t;", "");
        Talk.due("does not run", talk.x.timer(0, 0), MatchHouse.NONE);
        Talk.due("none", talk.x.timer(0, 2), MatchHouse.BAD);
        Talk.due("none", talk.x.timer(0, -1), MatchHouse.BAD);
        Talk.due("none", talk.x.timer(1, 0), MatchHouse.BAD);
        Talk.due("to timeout", talk.x.run(0, 3), 3);
        Talk.due("t", talk.x.timer(0, 0), 3);
        Talk.due("u", talk.x.timer(0, 1), 1_000_000_000);
        talk.x.clock(2);
        Talk.due("t", talk.x.timer(0, 0), 1);
        Talk.due("halt, then waits", talk.x.run(0, 9), 1);
        Talk.due("u", talk.x.timer(0, 1), MatchHouse.NONE);
        talk.x.clock(1);
        Talk.due("t has run out", talk.x.timer(0, 0), 0);
        talk.x.clock(5);
        Talk.due("t has run out", talk.x.timer(0, 0), 0);
        Talk.due("timeout, log, then waits", talk.x.run(0, 9), 2);
        Talk.due("no longer", talk.x.timer(0, 0), MatchHouse.NONE);
        Talk.due("log", log(talk, 2), "5/0/0=true 3/0/0 5/0/0=false");
        // RUN OUT is not active, and begin and halt end it.
        talk = begun("timer t;port p;", "begin t 1;receive p 1;log active t;begin t 2;log active t;receive p 1;halt t;timeout t;", "");
        talk.x.give(0, 0, talk.keep("1"));
        talk.x.give(0, 0, 0);
        talk.x.run(0, 1);
        talk.x.clock(1);
        talk.x.run(0, 4);
        Talk.due("begun anew", talk.x.timer(0, 0), 2);
        talk.x.clock(2);
        Talk.due("run out anew", talk.x.timer(0, 0), 0);
        Talk.due("halt", talk.x.run(0, 9), 2);
        Talk.due("no timeout", talk.x.timer(0, 0), MatchHouse.NONE);
        Talk.due("log", log(talk, 2), "2/0/0=1 5/0/0=false 5/0/0=true 2/0/0=1");
        errs("timer t;", "begin t 0;", "", 3, "");
        errs("timer t;", "begin t 1000000001;", "", 3, "");
        errs("timer t;", "begin t true;", "", 1, "");
        errs("timer t;", "begin t omit;", "", 1, "");
        talk = begun("timer t;", "begin t 5;stop;", "");
        talk.x.run(0, 2);
        Talk.due("its timers don't run", talk.x.timer(0, 0), MatchHouse.NONE);
    }

    private static void components() {
        String d = "component D{var m:=me;var v:=[now,verdict,ended(me)];timer t;}function f on D(a,b){log [a,b];log m;}function g on C(){}component E{var a:=1;var b:=1/0;}";
        Talk talk = begun("var d:=0;", "create D into d;log d;start d as f(1,omit==1);log ended(d);done d;log ended(d);", d);
        talk.x.clock(7);
        Talk.due("to done", talk.x.run(0, 99), 4);
        Talk.due("two", talk.x.all(0), 2);
        state(talk, 1, 1, 0, 1, 1, talk.x.state(1, 4), 0, 0, 0);
        Talk.due("vars", talk.told(talk.x.variable(1, 1)), "[7,0,false]");
        Talk.due("itself", talk.told(talk.x.variable(1, 0)), "#1");
        Talk.due("its steps", talk.x.run(1, 9), 2);
        Talk.due("done", talk.x.run(0, 9), 2);
        Talk.due("log", log(talk, 2), "8/1/1 5/0/0=#1 9/1/0 5/0/0=false 5/1/0=[1,false] 5/1/0=#1 6/1/0 5/0/0=true 6/0/0");
        talk = begun("var d:=0;", "create D into d;", d);
        talk.x.run(0, 1);
        state(talk, 1, 0, 0, 1, 0, MatchHouse.NONE, 0, 0, 0);
        Talk.due("a FRESH one does nothing", talk.x.run(1, 5), 0);
        errs("var d:=0;", "create E into d;", d, 3, "");
        errs("var d:N:=0;", "create D into d;", d, 4, "");
        errs("var d:N:=0;", "create E into d;", d, 3, "");
        errs("var d:=0;", "start d as f(1,2);", d, 1, "");
        errs("var d:=0;", "start d as f(1,1/0);", d, 3, "");
        errs("var d:=me;", "start d as f(1,2);", d, 6, "");
        errs("var d:=me;", "start d as g();", d, 6, "");
        errs("var d:=0;", "create D into d;start d as g();", d, 6, "8/1/1");
        errs("var d:=0;", "create D into d;start d as f(1,2);start d as f(1,2);", d, 6, "8/1/1 9/1/0");
        errs("var d:=0;", "create D into d;stop d;start d as f(1,2);", d, 6, "8/1/1 6/1/0");
        errs("var d:=0;", "done d;", d, 1, "");
        // 8 components at most; that counts ahead of what is wrong with the vars.
        String seven = "var i:=0;while i<7{create D into d;i:=i+1;}";
        errs("var d:=0;", seven + "create E into d;", d, 7, "8/1/1 8/2/1 8/3/1 8/4/1 8/5/1 8/6/1 8/7/1");
        logs("var d:=0;", seven + "log d;set pass;", d, 25, "8/1/1 8/2/1 8/3/1 8/4/1 8/5/1 8/6/1 8/7/1 5/0/0=#7 4/0/1 6/0/0");
        // An empty function: it has ended at once.
        logs("var d:=0;", "create C2 into d;start d as e();done d;", "component C2{}function e on C2(){}", 3, "8/1/1 9/1/0 6/1/0 6/0/0");
    }

    private static void connecting() {
        String d = "component D{port q;port r;}";
        errs("port p;", "connect 1 at p with me at p;", d, 1, "");
        errs("port p;", "connect me at p with 1 at zz;", d + "component Z{port zz;}", 1, "");
        errs("port p;", "connect me at q with me at p;", d, 5, "");
        errs("port p;", "connect me at p with me at q;", d, 5, "");
        errs("port p;", "connect me at p with me at p;connect me at p with me at p;", d, 5, "");
        errs("port p;var d:=0;", "create D into d;connect me at p with d at q;connect d at r with d at q;", d, 5, "8/1/1");
        errs("port p;var d:=0;", "create D into d;connect me at p with d at q;connect me at p with d at r;", d, 5, "8/1/1");
        errs("port p;", "connect 1/0 at p with -true at p;", d, 3, "");
        logs("port p;var d:=0;", "create D into d;connect d at q with d at r;connect me at p with me at p;send p 1;", d, 4, "8/1/1 1/0/0=1 6/0/0");
    }

    private static void stopping() {
        String d = "component D{port q;timer t;}function f on D(){begin t 5;usual a();receive q ?;}altstep a on D(){}";
        Talk talk = begun("port p;var d:=0;", "create D into d;start d as f();receive p ?;stop d;stop d;log ended(d);stop me;log 1;", d);
        talk.x.run(0, 9);
        talk.x.run(1, 9);
        state(talk, 1, 1, 0, 1, 1, talk.x.state(1, 4), 1, 2, 0);
        Talk.due("its timer", talk.x.timer(1, 0), 5);
        talk.x.give(0, 0, talk.keep("1"));
        Talk.due("to the end", talk.x.run(0, 9), 5);
        state(talk, 1, 2, 0, 1, 0, MatchHouse.NONE, 0, 2, 0);
        Talk.due("its timer", talk.x.timer(1, 0), MatchHouse.NONE);
        Talk.due("no step", talk.x.run(1, 9), 0);
        Talk.due("log", log(talk, 4), "2/0/0=1 6/1/0 5/0/0=true 6/0/0");
        logs("", "stop;log 1;", "", 1, "6/0/0");
        logs("var d:=0;", "create D into d;stop d;log ended(d);", d, 3, "8/1/1 6/1/0 5/0/0=true 6/0/0");
        errs("", "stop 1;", "", 1, "");
        errs("", "stop omit;", "", 1, "");
    }

    private static void alternatives() {
        logs("", "alt{[else]{log 1;}}log 2;", "", 3, "5/0/0=1 5/0/0=2 6/0/0");
        logs("", "alt{[false]done me{log 1;}[else]{}[else]{log 2;}}", "", 1, "6/0/0");
        errs("", "alt{[1]done me{}}", "", 1, "");
        errs("", "alt{[1/0==1]done me{}}", "", 3, "");
        errs("", "alt{[]done me{}[omit]done me{}[else]{}}", "", 1, "");
        logs("", "alt{[else]{}[1]done me{}}log 1;", "", 2, "5/0/0=1 6/0/0");
        Talk talk = begun("", "alt{}log 1;", "");
        Talk.due("nothing to take", talk.x.run(0, 5), 0);
        Talk.due("no step", talk.x.state(0, 6), 0);
        Talk.due("runs", talk.x.state(0, 0), 1);
        // The first branch that is so, in order; what it takes is no longer there.
        talk = begun("port p;port q;timer t;var v:=0;", "begin t 1;alt{[v>0]receive p ?{log 1;}[]receive q 7 into v{log v;}[]timeout t{log 3;}[v==0]receive p ? into v{log [v];}}log 9;", "");
        talk.x.run(0, 9);
        Talk.due("waits", talk.x.state(0, 4), 1);
        talk.x.give(0, 0, talk.keep("5"));
        talk.x.give(0, 1, talk.keep("7"));
        talk.x.clock(1);
        Talk.due("q", talk.x.run(0, 9), 3);
        Talk.due("log", log(talk, 2), "2/0/1=7 5/0/0=7 5/0/0=9 6/0/0");
        Talk.due("p is untouched", talk.x.queue(0, 0), 1);
        talk = begun("port p;timer t;var v:=0;", "begin t 1;while v<3{alt{[v==1]timeout t{v:=v+1;}[]receive p 1{v:=v+1;alt{[v==3]receive p 2{log v;}[else]{log 0;}}}}}", "");
        talk.x.give(0, 0, talk.keep("1"));
        talk.x.give(0, 0, 0);
        talk.x.give(0, 0, talk.keep("2"));
        Talk.due("to v == 2", talk.x.run(0, 99), 12);
        Talk.due("waits", talk.x.state(0, 6), 12);
        Talk.due("log", log(talk, 2), "2/0/0=1 5/0/0=0 2/0/0=1 5/0/0=0");
        // Nothing is done of what is only looked at.
        talk = begun("port p;var v:N:=1;", "alt{[]receive p ? into v{}}", "");
        talk.x.give(0, 0, talk.keep("10"));
        Talk.due("does not fit", talk.x.run(0, 9), 1);
        Talk.due("4", talk.x.state(0, 7), 4);
        Talk.due("it is not taken", talk.x.queue(0, 0), 1);
        Talk.due("v stays", talk.told(talk.x.variable(0, 0)), "1");
        Talk.due("log", log(talk, 2), "7/0/4 4/0/4 6/0/0");
    }

    private static void altsteps() {
        String a = "altstep a on C(n){[n>0]step a(n-1);[n==0]receive p ? into n{log n;var m:=n;n:=0;log m;}[else]{log n;}}";
        Talk talk = begun("port p;", "alt{[false]step b();[]step c(5);}log 9;", "altstep b on C(){[else]{}}altstep c on C(n){[n==5]receive p 1..9 into n{log n;var m:=2;log m;}}");
        talk.x.give(0, 0, talk.keep("7"));
        Talk.due("the branch", talk.x.run(0, 1), 1);
        Talk.due("a frame of its own", talk.x.state(0, 3), 2);
        Talk.due("n", talk.told(talk.x.variable(0, 100)), "7");
        Talk.due("m", talk.x.variable(0, 101), MatchHouse.NONE);
        Talk.due("no place", talk.x.variable(0, 102), MatchHouse.NONE);
        Talk.due("to the end", talk.x.run(0, 9), 4);
        Talk.due("log", log(talk, 2), "2/0/0=7 5/0/0=7 5/0/0=2 5/0/0=9 6/0/0");
        // Four altsteps deep, not five; arguments are worked out ahead of that.
        logs("port p;", "alt{[]step a(0);}", a, 2, "5/0/0=0 6/0/0");
        logs("port p;", "alt{[]step b(3);}", "altstep b on C(n){[n>0]step b(n-1);[n==0]done me{}}", 0, "");
        logs("port p;", "alt{[]step b(2);}", "altstep b on C(n){[n>0]step b(n-1);[n==0]step c(n);}altstep c on C(n){[else]{log n;}}", 2, "5/0/0=0 6/0/0");
        errs("port p;", "alt{[]step b(3);}", "altstep b on C(n){[n>0]step b(n-1);[n==0]step c(n);}altstep c on C(n){[else]{log n;}}", 7, "");
        errs("port p;", "alt{[]step b(3);}", "altstep b on C(n){[n>0]step b(n-1);[n==0]step c(1/0);}altstep c on C(n){[else]{log n;}}", 3, "");
        // return: the frame goes, and what it gives goes nowhere.
        logs("var v:=1;", "call f() into v;log v;", "function f on C(){alt{[]step b();}return 3;}altstep b on C(){[else]{return 2;}}", 5, "5/0/0=3 6/0/0");
        logs("", "alt{[]step b();}", "altstep b on C(){[else]{}}", 1, "6/0/0");
        // As one of the 8 frames.
        String f = "function f on C(n){if n>0{call f(n-1);}else{alt{[]step b();}}}altstep b on C(){[]receive p ?{log 1;}}";
        talk = begun("port p;", "call f(5);", f);
        talk.x.give(0, 0, talk.keep("1"));
        talk.x.run(0, 99);
        Talk.due("7 and its own", log(talk, 2), "2/0/0=1 5/0/0=1 6/0/0");
        talk = begun("port p;", "call f(6);", f);
        talk.x.run(0, 99);
        Talk.due("waits with 8", talk.x.state(0, 3), 8);
        talk.x.give(0, 0, talk.keep("1"));
        Talk.due("there is one too many", talk.x.run(0, 99), 1);
        Talk.due("log", log(talk, 2), "7/0/7 4/0/4 6/0/0");
        Talk.due("it is not taken", talk.x.queue(0, 0), 1);
    }

    /** A branch of an altstep that is so with 8 FRAMES is ERROR 7, whatever it is and its 'into' would get; with 7 it is gone into. */
    private static void altstepsWithEightFrames() {
        String[][] ways = {
            // in the function, altsteps, error with 7 FRAMES, log with 7 FRAMES
            {"alt{[]step a();}", "altstep a on C(){[]receive p ? into v{}}", "4", ""},
            {"alt{[]step a(1);}", "altstep a on C(x){[]receive p ?{}[]receive p ? into x{}}", "0", "2/0/0=\"x\" 6/0/0"},
            {"alt{[]step a();}", "altstep a on C(){[false]receive p ?{var x:N:=1;}[]receive p ? into x{}}", "4", ""},
            {"alt{[]step a();}", "altstep a on C(){[]step b();}altstep b on C(){[]receive p ? into v{}}", "4", ""},
            {"usual a();receive q ?;", "altstep a on C(){[]receive p ? into v{}}", "4", ""},
            {"usual a();alt{}", "altstep a on C(){[]step b();}altstep b on C(){[]receive p \"x\" into w{log w;}}", "0", "2/0/0=\"x\" 5/0/0=\"x\" 6/0/0"},
            {"begin t 1;alt{[]step a();}", "altstep a on C(){[]timeout t{log 1;}}", "0", "3/0/0 5/0/0=1 6/0/0"},
            {"alt{[]step a();}", "altstep a on C(){[]done d{log 1;}}", "0", "5/0/0=1 6/0/0"},
            {"alt{[]step a();}", "altstep a on C(){[else]{}}", "0", "6/0/0"}};
        for (String[] way : ways) {
            talkOfFrames(6, way[0], way[1], 7, "");
            talkOfFrames(5, way[0], way[1], Integer.parseInt(way[2]), way[3]);
        }
        // What is no branch of an altstep needs no FRAME: there 'into' is looked at.
        talkOfFrames(6, "receive p ? into v;", "", 4, "");
        talkOfFrames(6, "alt{[]receive p ? into v{}}", "", 4, "");
        talkOfFrames(6, "alt{[false]step a();[]receive p ? into w{log w;}}", "altstep a on C(){[else]{}}", 0, "2/0/0=\"x\" 5/0/0=\"x\" 6/0/0");
        // What goes wrong as it is looked at comes ahead of what is taken.
        talkOfFrames(6, "alt{[]step a();}", "altstep a on C(){[1/0==0]receive p ? into v{}}", 3, "");
        talkOfFrames(6, "alt{[]step a();}", "altstep a on C(){[]receive p =(-true) into v{}}", 1, "");
    }

    /** So many calls below the case's, then these statements with a TEXT at port p, a timer that has RUN OUT, and d, that has ENDED. */
    private static void talkOfFrames(int calls, String statements, String others, int error, String want) {
        Talk talk = begun("port p;port q;timer t;var d:=0;var v:N:=1;var w:=1;", "create D into d;stop d;call f(" + calls + ");",
            "component D{}function f on C(k){if k>0{call f(k-1);}else{" + statements + "}}" + others);
        talk.x.run(0, 2);
        for (int i = 0; i < 99 && talk.x.state(0, 3) < calls + 2; i++) talk.x.run(0, 1);
        if (statements.startsWith("usual")) talk.x.run(0, 2);
        int from = (int) talk.x.all(3);
        if (statements.startsWith("begin")) talk.x.run(0, 2);
        talk.x.clock(1);
        talk.x.give(0, 0, talk.keep("\"x\""));
        talk.x.run(0, 99);
        String what = statements + others + " with " + (calls + 2);
        Talk.due("error of " + what, talk.x.state(0, 7), error);
        Talk.due("log of " + what, log(talk, from), error == 0 ? want : "7/0/" + error + " 4/0/4 6/0/0");
        if (error == 0) return;
        Talk.due("it stays in the QUEUE", talk.x.queue(0, 0), 1);
        Talk.due("v stays", talk.told(talk.x.variable(0, 1)), "1");
    }

    private static void usualWays() {
        String ways = "altstep u on C(n){[]receive p =(n){log n;}}" + "altstep w on C(n){[]receive p ?{log [n];}}altstep t1 on C(){[]timeout t{log 77;}}"
            + "altstep e on C(){[else]{log 66;stop;}}altstep s on C(){[]step w(5);}";
        String own = "port p;port q;timer t;";
        Talk talk = begun(own, "usual w(1);usual u(2);usual t1();begin t 9;receive q ?;log 0;", ways);
        talk.x.run(0, 99);
        Talk.due("three", talk.x.state(0, 5), 3);
        for (int i = 1; i <= 3; i++) talk.x.give(0, 0, talk.keep("" + i));
        talk.x.clock(9);
        // The latest first: the timer; then w takes 1, u takes 2 ahead of w, w takes 3; each time what comes is behind the event.
        Talk.due("the timer", talk.x.run(0, 99), 3);
        Talk.due("log", log(talk, 2), "3/0/0 5/0/0=77 5/0/0=0 6/0/0");
        talk = begun(own, "usual w(1);usual u(2);alt{[]receive q ?{}}receive q ?;receive q ?;", ways);
        talk.x.run(0, 99);
        for (int i = 1; i <= 3; i++) talk.x.give(0, 0, talk.keep("" + i));
        talk.x.run(0, 99);
        Talk.due("log", log(talk, 2), "2/0/0=1 5/0/0=[1] 2/0/0=2 5/0/0=2 2/0/0=3 5/0/0=[1] 6/0/0");
        // Own branches first; an else ends it all.
        talk = begun(own, "usual e();alt{[]receive p ?{log 1;}}log 2;", ways);
        talk.x.give(0, 0, talk.keep("1"));
        talk.x.run(0, 99);
        Talk.due("log", log(talk, 2), "2/0/0=1 5/0/0=1 5/0/0=2 6/0/0");
        logs(own, "usual e();alt{[else]{log 1;}}log 2;", ways, 4, "5/0/0=1 5/0/0=2 6/0/0");
        logs(own, "usual e();receive p ?;log 2;", ways, 4, "5/0/0=66 6/0/0");
        // Arguments are those of the statement.
        logs(own + "var v:=1;", "usual g(v);v:=2;receive p ?;", "altstep g on C(n){[n==1]receive q ?{}[else]{log [n,v];}}", 4, "5/0/0=[1,2] 6/0/0");
        errs(own, "usual w(1/0);", ways, 3, "");
        Talk.due("four", begun(own, Talk.times("usual t1();", 4), ways).x.run(0, 9), 4);
        errs(own, Talk.times("usual t1();", 5), ways, 7, "");
        errs(own, Talk.times("usual w(1);", 4) + "usual w(1/0);", ways, 3, "");
        logs(own, Talk.times("usual e();", 4) + "unusual;usual e();unusual;alt{[]step e();}", ways, 10, "5/0/0=66 6/0/0");
        // USUAL WAYS count as the first altstep deep.
        String deep = "altstep d on C(n){[n>0]step d(n-1);[n==0]receive p ?{log n;}}";
        talk = begun(own, "usual d(3);receive q ?;", deep);
        talk.x.give(0, 0, talk.keep("1"));
        talk.x.run(0, 99);
        Talk.due("four deep", log(talk, 2), "2/0/0=1 5/0/0=0 6/0/0");
        errs(own, "usual d(4);receive q ?;", deep, 7, "");
        // They are gone with the component's end, and are its own.
        talk = begun(own, "usual w(1);stop;", ways);
        talk.x.run(0, 1);
        Talk.due("one", talk.x.state(0, 5), 1);
        talk.x.run(0, 1);
        Talk.due("none", talk.x.state(0, 5), 0);
    }

    private static void taking() {
        // done, and what is behind it; a while's block; nested alts.
        String d = "component D{}function f on D(){}";
        logs("var d:=0;", "create D into d;alt{[]done d{log 1;}[]done me{log 2;}[else]{log 3;start d as f();}}alt{[]done d{log 4;}}", d, 6,
            "8/1/1 5/0/0=3 9/1/0 6/1/0 5/0/0=4 6/0/0");
        Talk talk = begun("port p;var v:=0;", "while true{alt{[]receive p 0{return;}[]receive p ? into v{if v>1{log v;}}}}", "");
        for (int i = 3; i >= 0; i--) talk.x.give(0, 0, talk.keep("" + i));
        Talk.due("steps", talk.x.run(0, 99), 3 * 3 + 2 + 3);
        Talk.due("log", log(talk, 2), "2/0/0=3 5/0/0=3 2/0/0=2 5/0/0=2 2/0/0=1 2/0/0=0 6/0/0");
        // into a place of the altstep, of the function, of the component.
        talk = begun("port p;var v:=0;", "var a:=0;receive p ? into a;receive p ? into v;alt{[]step s(0);}log [a,v];", "altstep s on C(n){[]receive p ? into n{log n;}}");
        for (int i = 1; i <= 3; i++) talk.x.give(0, 0, talk.keep("" + i));
        talk.x.run(0, 99);
        Talk.due("log", log(talk, 2), "2/0/0=1 2/0/0=2 2/0/0=3 5/0/0=3 5/0/0=[1,2] 6/0/0");
    }

    private static void judgements() {
        logs("", "set pass;set pass;set inconc;set pass;set fail;set inconc;log verdict;", "", 7, "4/0/1 4/0/2 4/0/3 5/0/0=3 6/0/0");
        errs("", "set fail;log 1/0;", "", 3, "4/0/3");
        Talk talk = begun("var d:=0;", "set pass;create D into d;start d as f();", "component D{}function f on D(){set inconc;log 1/0;}");
        talk.x.run(0, 9);
        Talk.due("pass", talk.x.all(2), 1);
        talk.x.run(1, 1);
        Talk.due("inconc", talk.x.all(2), 2);
        Talk.due("its own", talk.x.state(0, 1), 1);
        talk.x.run(1, 1);
        Talk.due("error", talk.x.all(2), 4);
        Talk.due("it went wrong", talk.x.state(1, 7), 3);
        Talk.due("not so", talk.x.state(0, 7), 0);
    }

    private static void log() {
        Talk talk = begun("port p;", "var i:=0;while i<400{send p i;i:=i+1;}", "");
        talk.x.run(0, 10_000);
        Talk.due("all are counted", talk.x.all(3), 403);
        Talk.due("all are counted", talk.x.all(4), 400);
        Talk.due("299 is kept", talk.x.event(299, 0), 0);
        Talk.due("its value", talk.told(talk.x.eventValue(299)), "297");
        Talk.due("300 is not", talk.x.event(300, 0), MatchHouse.BAD);
        Talk.due("300 is not", talk.x.eventValue(300), MatchHouse.NONE);
        Talk.due("-1", talk.x.event(-1, 0), MatchHouse.BAD);
        Talk.due("-1", talk.x.eventValue(-1), MatchHouse.NONE);
        Talk.due("what 3", talk.x.event(0, 3), MatchHouse.BAD);
        Talk.due("what -1", talk.x.event(0, -1), MatchHouse.BAD);
        Talk.due("no value", talk.x.eventValue(0), MatchHouse.NONE);
        talk = begun("", "log 1;", "");
        Talk.due("2 is not there yet", talk.x.event(2, 0), MatchHouse.BAD);
        Talk.due("2 is not there yet", talk.x.eventValue(2), MatchHouse.NONE);
    }

    private static void variables() {
        Talk talk = begun("var v:=1;var w:=omit;", "var a:=1;if false{var b:=2;}call f(5);", "function f on C(n){var m:=omit;log m==n;}");
        Talk.due("v", talk.told(talk.x.variable(0, 0)), "1");
        Talk.due("w", talk.told(talk.x.variable(0, 1)), "omit");
        Talk.due("none", talk.x.variable(0, 2), MatchHouse.NONE);
        Talk.due("a is not told yet", talk.x.variable(0, 100), MatchHouse.NONE);
        talk.x.run(0, 2);
        Talk.due("a", talk.told(talk.x.variable(0, 100)), "1");
        Talk.due("b is not told yet", talk.x.variable(0, 101), MatchHouse.NONE);
        Talk.due("none", talk.x.variable(0, 102), MatchHouse.NONE);
        talk.x.run(0, 2);
        Talk.due("n of the topmost", talk.told(talk.x.variable(0, 100)), "5");
        Talk.due("m", talk.told(talk.x.variable(0, 101)), "omit");
        for (int place : new int[] {-1, 8, 9, 99, 102, 107, 108, 1_000, Integer.MAX_VALUE, Integer.MIN_VALUE}) {
            Talk.due("place " + place, talk.x.variable(0, place), MatchHouse.NONE);
        }
        Talk eight = begun("var a:=1;var b:=1;var c:=1;var d:=1;var e:=1;var f1:=1;var g1:=1;var h1:=8;", "var i:=2;log i;", "");
        eight.x.run(0, 1);
        Talk.due("the last var", eight.told(eight.x.variable(0, 7)), "8");
        Talk.due("no ninth", eight.x.variable(0, 8), MatchHouse.NONE);
        Talk.due("no component", talk.x.variable(1, 0), MatchHouse.BAD);
        Talk.due("no component", talk.x.variable(-1, 0), MatchHouse.BAD);
        talk.x.run(0, 9);
        Talk.due("v is kept", talk.told(talk.x.variable(0, 0)), "1");
        Talk.due("no frame", talk.x.variable(0, 100), MatchHouse.NONE);
    }

    private static void clock() {
        Talk talk = Talk.of("");
        Talk.due("no run", talk.x.clock(0), MatchHouse.BAD);
        talk = begun("", "log now;", "");
        Talk.due("0", talk.x.clock(0), 1);
        Talk.due("-1", talk.x.clock(-1), MatchHouse.BAD);
        Talk.due("too much", talk.x.clock(1_000_000_001), MatchHouse.BAD);
        Talk.due("time", talk.x.all(1), 0);
        for (int i = 1; i < 1_000; i++) talk.x.clock(1_000_000_000);
        Talk.due("near", talk.x.clock(999_999_999), 1);
        Talk.due("too far", talk.x.clock(2), 0);
        Talk.due("stays", talk.x.all(1), 999_999_999_999L);
        Talk.due("the last tick", talk.x.clock(1), 1);
        Talk.due("no tick more", talk.x.clock(1), 0);
        Talk.due("none", talk.x.clock(0), 1);
        talk.x.run(0, 1);
        Talk.due("log", log(talk, 2), "5/0/0=1000000000000 6/0/0");
    }

    private static void canGoOn() {
        Talk talk = begun("port p;timer t;var d:=0;", "create D into d;start d as f();begin t 2;alt{[]timeout t{}[]receive p =(1/0){}}log 1;", "component D{port q;}function f on D(){receive q ?;}");
        Talk.due("can", talk.x.all(5), 0);
        talk.x.run(0, 2);
        Talk.due("can", talk.x.all(5), 0);
        talk.x.run(0, 9);
        Talk.due("both wait", talk.x.all(5), 1);
        talk.x.clock(2);
        Talk.due("the timer has run out", talk.x.all(5), 0);
        Talk.due("nothing is done by that", talk.x.timer(0, 0), 0);
        Talk.due("to the end", talk.x.run(0, 9), 2);
        Talk.due("one waits, one has ended", talk.x.all(5), 1);
        talk.x.give(1, 0, talk.keep("1"));
        Talk.due("it can", talk.x.all(5), 0);
        talk.x.run(1, 9);
        Talk.due("all have ended", talk.x.all(5), 1);
        // An ERROR is a STEP, too.
        talk = begun("port p;", "receive p =(1/0);", "");
        Talk.due("waits", talk.x.all(5), 1);
        talk.x.give(0, 0, talk.keep("1"));
        Talk.due("can", talk.x.all(5), 0);
        Talk.due("nothing is done by that", talk.x.state(0, 0), 1);
        Talk.due("all 6", talk.x.all(6), MatchHouse.BAD);
        Talk.due("all -1", talk.x.all(-1), MatchHouse.BAD);
    }

    private static void bad() {
        Talk talk = begun("port p;", "log 1;", "");
        Talk.due("run -1", talk.x.run(-1, 1), MatchHouse.BAD);
        Talk.due("run 1", talk.x.run(1, 1), MatchHouse.BAD);
        Talk.due("-1 steps", talk.x.run(0, -1), MatchHouse.BAD);
        Talk.due("10001 steps", talk.x.run(0, 10_001), MatchHouse.BAD);
        Talk.due("10000 steps", talk.x.run(0, 10_000), 1);
        Talk.due("state -1", talk.x.state(-1, 0), MatchHouse.BAD);
        Talk.due("state 1", talk.x.state(1, 0), MatchHouse.BAD);
        Talk.due("state of 8", talk.x.state(0, 8), MatchHouse.BAD);
        Talk.due("state of -1", talk.x.state(0, -1), MatchHouse.BAD);
        talk.module("");
        Talk.due("no run", talk.x.run(0, 1), MatchHouse.BAD);
        Talk.due("no run", talk.x.all(0), MatchHouse.BAD);
        Talk.due("no run", talk.x.state(0, 0), MatchHouse.BAD);
        Talk.due("no run", talk.x.event(0, 0), MatchHouse.BAD);
        Talk.due("no run", talk.x.eventValue(0), MatchHouse.NONE);
        Talk.due("no run", talk.x.queue(0, 0), MatchHouse.BAD);
        Talk.due("no run", talk.x.timer(0, 0), MatchHouse.BAD);
        Talk.due("no run", talk.x.variable(0, 0), MatchHouse.BAD);
        Talk.due("no run", talk.x.give(0, 0, 0), MatchHouse.BAD);
    }
}
