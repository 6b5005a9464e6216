import java.util.Random;

/** No call throws, for any arguments in any state, and the same calls give the same answers. */
public final class SteadyTest {
    private static final String[] WORDS = {"type", "template", "component", "function", "altstep", "case", "on", "port", "timer", "var", "int", "bool", "text",
        "enum", "record", "choice", "list", "of", "optional", "length", "ifpresent", "true", "false", "omit", "not", "both", "pattern", "subset", "superset",
        "perm", "size", "me", "now", "verdict", "met", "ended", "active", "if", "else", "while", "return", "call", "into", "set", "pass", "inconc", "fail",
        "log", "send", "alt", "begin", "halt", "create", "start", "as", "connect", "at", "with", "stop", "usual", "unusual", "step", "receive", "from",
        "timeout", "done", "(", ")", "{", "}", "[", "]", ",", ";", ":", ".", "?", "*", "+", "-", "/", "%", "=", "<", ">", "&", "!", "@", ":=", "..", "==",
        "!=", "<=", ">=", "&&", "||", "A", "B", "C", "k", "f", "p", "t", "x", "y", "red", "0", "1", "9", "16", "40", "41", "999999999999999", "\"a*\"", "\"\"", "$"};
    private static final String[] MODULES = {
        "type A=int(0..9);type B=record{f:A,g:B optional};type L=list of L;type E=enum{red};template M=(1,[*,=(1)],{f:=?,g:=*});component C{port p;port q;timer t;var x:=1;var y:L:=[];}"
            + "function f on C(a){log a;call f(a+1);}altstep s on C(n){[]receive p ? into x{log x;}[n>0]step s(n-1);[]timeout t{set fail;}}"
            + "case k on C(){usual s(3);begin t 2;create C into x;connect me at q with x at p;start x as f(0);send q {f:=x};alt{[]receive q M{}[]done x{stop;}}call f(1);}",
        "type A=text(0..9);type B=choice{f:A,g:list(1..2)of B};template M=pattern \"a*?\";component C{port p;var x:=[];}case k on C(){while size x<16{x[size x]:=size x;send p x;}x[16]:=1;}",
        "component C{var x:=1/0;}case k on C(){}type A=A2;type A2=int;template M=M2;template M2= =([1][1]);"};

    public static void main(String[] args) {
        for (int seed = 0; seed < 120; seed++) play(seed);
        Talk.finish();
    }

    private static void play(int seed) {
        Talk one = new Talk();
        Talk other = new Talk();
        Random random = new Random(seed);
        Random same = new Random(seed);
        for (int i = 0; i < 512; i++) {
            long answer = call(one, random);
            Talk.due("call " + i + " of " + seed, call(other, same), answer);
        }
    }

    private static int number(Random random) {
        switch (random.nextInt(12)) {
            case 0: return Integer.MIN_VALUE;
            case 1: return Integer.MAX_VALUE;
            case 2: return -1;
            case 3: return random.nextInt();
            case 4: return 100 + random.nextInt(9);
            case 5: return random.nextInt(400);
            default: return random.nextInt(4);
        }
    }

    private static String tokens(Random random, int most) {
        StringBuilder text = new StringBuilder();
        int n = random.nextInt(most);
        for (int i = 0; i < n; i++) text.append(WORDS[random.nextInt(WORDS.length)]).append(' ');
        return text.toString();
    }

    /** A module, some of its tokens put elsewhere, or left out. */
    private static String module(Random random) {
        StringBuilder text = new StringBuilder(MODULES[random.nextInt(MODULES.length)]);
        int changes = random.nextInt(3);
        for (int i = 0; i < changes; i++) {
            int at = random.nextInt(text.length());
            if (random.nextBoolean()) text.deleteCharAt(at);
            else text.insert(at, WORDS[random.nextInt(WORDS.length)]);
        }
        return text.toString();
    }

    private static final String[] VALUES = {"1", "-5", "\"abc\"", "[]", "[[],[[]]]", "{f:=1}", "{f:=1,g:={f:=2}}", "@f \"a\"", "@g [@f \"\"]", "red", "true", "omit",
        "[1,2,3]&[4]", "1/0", "{f:=[1]}.f[0]", "size \"abc\"*1000000*1000000*1000000"};

    private static long call(Talk talk, Random r) {
        MatchHouse x = talk.x;
        int a = number(r);
        int b = number(r);
        int c = number(r);
        switch (r.nextInt(46)) {
            case 0: talk.feed(module(r)); return x.module();
            case 1: talk.feed(tokens(r, 30)); return r.nextInt(4) == 0 ? x.module() : x.count(2);
            case 2: case 3: case 4: talk.feed(VALUES[r.nextInt(VALUES.length)]); return x.value();
            case 5: talk.feed(tokens(r, 12)); return x.value();
            case 6: talk.feed(WORDS[r.nextInt(WORDS.length)]); return x.named();
            case 7: return x.end(a);
            case 8: return x.feed(a, b, c, a, b);
            case 9: return x.count(a);
            case 10: return r.nextInt(3) == 0 ? x.drop() : 0;
            case 11: return x.about(a, b);
            case 12: return x.alike(a, b);
            case 13: return x.fits(a, b);
            case 14: return x.within(a, b);
            case 15: return x.many(a, b);
            case 16: return x.lightest(a);
            case 17: return x.tell(a);
            case 18: return x.letter(a);
            case 19: case 20: return x.met(a, b);
            case 21: return x.why(a);
            case 22: return x.encode(a, b);
            case 23: return x.bit(a);
            case 24: return x.bits(a, b);
            case 25: return x.noBits();
            case 26: return x.decode(a);
            case 27: case 28: return x.begin(r.nextInt(4));
            case 29: case 30: case 31: case 32: return x.run(r.nextInt(4), r.nextInt(50));
            case 33: return x.run(a, b);
            case 34: return x.clock(a);
            case 35: return x.give(a, b, c);
            case 36: return x.state(a, b);
            case 37: return x.all(a);
            case 38: return x.queue(a, b);
            case 39: return x.queued(a, b, c);
            case 40: return x.timer(a, b);
            case 41: return x.variable(a, b);
            case 42: return x.event(a, b) + 7L * x.eventValue(a);
            case 43: return x.move(a & 3, b & 7, c & 7, r.nextInt(8), r.nextInt(4) > 0) + 3 * x.move(a, b, c, b, true);
            case 44: return x.conforms(a, b) + 3 * x.row(c);
            default: return x.can(a, b, c);
        }
    }
}
