/** Promises 19 to 23: VALUES as bits. */
public final class CodeTest {
    public static void main(String[] args) {
        numbers();
        others();
        row();
        ends();
        wrong();
        empty();
        weights();
        bad();
        Talk.finish();
    }

    /** A VALUE and its code by a type, both ways. */
    private static void code(String types, String exp, String bits) {
        Talk talk = Talk.of(types);
        int v = talk.keep(exp);
        String row = bits.replace(" ", "");
        Talk.due("bits of " + exp + " by " + types, talk.x.encode(v, 0), row.length());
        Talk.due(exp + " by " + types, talk.row(), row);
        talk.bits(row);
        Talk.due("read " + exp + " by " + types, talk.x.decode(0), v + 1);
        Talk.due("alike " + exp, talk.x.alike(v, v + 1), 1);
        talk.x.bits(0, 1);
        Talk.due("a bit too much behind " + exp, talk.x.decode(0), -10 - row.length());
        if (row.isEmpty()) return;
        talk.bits(row.substring(0, row.length() - 1));
        Talk.due("a bit too few of " + exp, talk.x.decode(0), -10 - (row.length() - 1));
    }

    /** Seven bits of a sign. */
    private static String sign(int sign) {
        return Integer.toBinaryString(128 + sign - 32).substring(1);
    }

    private static void numbers() {
        code("type A=int(3..10);", "3", "000");
        code("type A=int(3..10);", "10", "111");
        code("type A=int(7);", "7", "");
        code("type A=int(5,-3..-1,9);", "9", "1100");
        code("type A=int(5,-3..-1,9);", "-1", "0010");
        code("type A=int(-999999999999999..999999999999999);", "-999999999999999", Talk.times("0", 51));
        code("type A=int(0..1);", "1", "1");
        code("type A=int(0..2);", "2", "10");
        code("type A=B;type B=int(0..3);", "1", "01");
        code("type A=int;", "0", "00000001 00000000");
        code("type A=int;", "127", "00000001 01111111");
        code("type A=int;", "128", "00000010 00000000 10000000");
        code("type A=int;", "-128", "00000001 10000000");
        code("type A=int;", "-129", "00000010 11111111 01111111");
        code("type A=int;", "-1", "00000001 11111111");
        code("type A=int;", "999999999999999+1", "00000111 00000011 10001101 01111110 10100100 11000110 10000000 00000000");
        code("type A=int;", "-999999999999999-1", "00000111 11111100 01110010 10000001 01011011 00111001 10000000 00000000");
    }

    private static void others() {
        code("type A=bool;", "true", "1");
        code("type A=bool;", "false", "0");
        code("type A=enum{a,b,c,d,e};", "e", "100");
        code("type A=enum{a};", "a", "");
        code("type A=enum{a,b};", "b", "1");
        code("type A=text(2..5);", "\"ab\"", "00" + sign('a') + sign('b'));
        code("type A=text(1);", "\"~\"", sign('~'));
        code("type A=text;", "\"\"", "000000");
        code("type A=text;", "\" !\"", "000010 0000000 0000001");
        code("type A=text;", "\"" + Talk.times("z", 40) + "\"", "101000" + Talk.times(sign('z'), 40));
        String three = "type A=record{z:int(0..3),b:bool optional,a:int(0..1)optional};";
        code(three, "{a:=1,z:=2}", "01 10 1");
        code(three, "{b:=true,z:=3}", "10 11 1");
        code(three, "{a:=0,b:=false,z:=1}", "11 01 0 0");
        code("type A=record{};", "{}", "");
        code("type A=record{f:record{g:bool optional}optional,e:bool};", "{e:=true,f:={g:=false}}", "1 1 0 1");
        code("type A=choice{z:int(0..3),y:bool,x:A};", "@x @y true", "10 01 1");
        code("type A=choice{z:int(0..3)};", "@z 2", "10");
        code("type A=list(1..4)of B;type B=choice{b:bool,l:A};", "[@b true,@l [@b false],@b false]", "10 0 1 1 00 0 0 0 0");
        code("type A=list of bool;", "[]", "00000");
        code("type A=list(2)of list(0..1)of bool;", "[[],[true]]", "0 1 1");
        code("type A=list of B;type B=enum{red,blue,low};", "[low,red]", "00010 10 00");
    }

    private static void row() {
        Talk talk = Talk.of("type A=int(0..255);type B=bool;type C=list(16)of list(7)of int;");
        MatchHouse x = talk.x;
        Talk.due("bits 5 of 3", x.bits(5, 3), 3);
        Talk.due("bits -1 of 32", x.bits(-1, 32), 35);
        Talk.due("bits of none", x.bits(-1, 0), 35);
        Talk.due("bits 2 of 2", x.bits(-2, 2), 37);
        Talk.due("row", talk.row(), "101" + Talk.times("1", 32) + "10");
        Talk.due("bit -1", x.bit(-1), MatchHouse.NONE);
        Talk.due("bit 37", x.bit(37), MatchHouse.NONE);
        Talk.due("bits of 33", x.bits(0, 33), MatchHouse.BAD);
        Talk.due("bits of -1", x.bits(0, -1), MatchHouse.BAD);
        Talk.due("noBits", x.noBits(), 37);
        Talk.due("noBits of none", x.noBits(), 0);
        Talk.due("bit of none", x.bit(0), MatchHouse.NONE);
        for (int i = 1; i <= 250; i++) Talk.due("bits " + i, x.bits(i, 32), 32 * i);
        Talk.due("full", x.bits(1, 1), MatchHouse.FULL);
        Talk.due("full, of none", x.bits(1, 0), 8_000);
        Talk.due("last bits", x.bit(7_999) + 2 * x.bit(7_998), 250 % 4);
        int v = talk.keep("77");
        Talk.due("does not fit", x.encode(v, 1), MatchHouse.NONE);
        Talk.due("nothing is changed", x.count(10), 8_000);
        Talk.due("fits", x.encode(v, 0), 8);
        Talk.due("only its bits", talk.row(), "01001101");
        Talk.due("behind the code", x.bits(3, 2), 10);
        // The longest code: 112 numbers of 8 bytes each and what they stand in.
        String numbers = Talk.row("999999999999999", 6);
        String seven = "[[" + numbers + "]&[1]]";
        talk.works("size " + seven, "1");
        v = talk.keep("[" + Talk.row("[" + Talk.row("-999999999999999", 7) + "]", 12) + "]");
        talk = Talk.of("type A=list of list of int;");
        v = talk.keep("[" + Talk.row("[" + Talk.row("-999999999999999", 8) + "]", 12) + "]");
        Talk.due("a long code", talk.x.encode(v, 0), 5 + 12 * (5 + 8 * 64));
        Talk.due("read", talk.x.decode(0), 1);
        Talk.due("alike", talk.x.alike(0, 1), 1);
    }

    /** Reading is wrong at a place. */
    private static void wrongAt(String types, String bits, int place) {
        Talk talk = Talk.of(types);
        talk.bits(bits);
        int kept = talk.x.count(9);
        Talk.due("read " + bits + " by " + types, talk.x.decode(0), -10 - place);
        Talk.due("kept", talk.x.count(9), kept);
        Talk.due("the bits stay", talk.row(), bits.replace(" ", ""));
    }

    private static void ends() {
        wrongAt("type A=int(0..7);", "", 0);
        wrongAt("type A=int(0..7);", "10", 2);
        wrongAt("type A=int;", "0000000", 7);
        wrongAt("type A=int;", "00000010 00000001 0000000", 23);
        wrongAt("type A=record{f:bool optional,g:bool optional};", "1", 1);
        wrongAt("type A=text;", "000001 00", 8);
        wrongAt("type A=list of bool;", "0001", 4);
        wrongAt("type A=list of bool;", "00010 1", 6);
        wrongAt("type A=bool;", "10", 1);
        wrongAt("type A=int(4);", "0", 0);
    }

    private static void wrong() {
        wrongAt("type A=int(0..5);", "110", 0);
        wrongAt("type A=int(0..1,4..5);", "010", 0);
        wrongAt("type A=int;", "00000000", 0);
        wrongAt("type A=int;", "00001000 " + Talk.times("0", 64), 0);
        wrongAt("type A=int;", "00000010 00000000 01111111", 0);
        wrongAt("type A=int;", "00000010 11111111 10000000", 0);
        wrongAt("type A=int;", "00000111 00000011 10001101 01111110 10100100 11000110 10000000 00000001", 0);
        wrongAt("type A=int;", "00000111 11111100 01110010 10000001 01011011 00111001 01111111 11111111", 0);
        wrongAt("type A=record{b:bool,i:int};", "1 00001001", 1);
        wrongAt("type A=enum{a,b,c};", "11", 0);
        wrongAt("type A=text(1..3);", "11", 0);
        wrongAt("type A=text(1..3);", "01 " + sign('a') + sign('"'), 9);
        wrongAt("type A=text(1..3);", "00 " + sign(127), 2);
        wrongAt("type A=list(2..4)of bool;", "11", 0);
        wrongAt("type A=choice{a:bool,b:bool,c:bool};", "11 0", 0);
        wrongAt("type A=list(2)of enum{a,b,c};", "00 11", 2);
    }

    private static void empty() {
        String none = "type N=record{n:N};";
        for (String bits : new String[] {"", "0", "1010"}) {
            wrongAt(none, bits, 0);
            wrongAt("type A=choice{f:A,g:A};", bits, 0);
            wrongAt("type A=list(1..2)of A;", bits, 0);
        }
        wrongAt("type A=record{f:N optional,g:bool};" + none, "1 1 1", 1);
        wrongAt("type A=record{f:N optional,g:bool};" + none, "1", 1);
        code("type A=record{f:N optional,g:bool};" + none, "{g:=true}", "0 1");
        wrongAt("type A=list(0..3)of N;" + none, "01 1", 2);
        code("type A=list(0..3)of N;" + none, "[]", "00");
        wrongAt("type A=choice{f:N,g:bool};" + none, "0 1", 1);
        code("type A=choice{f:N,g:bool};" + none, "@g true", "1 1");
    }

    private static void weights() {
        // 1 and 7 times 17 are 120; the eighth list is too much, whatever bits there are.
        String lists = "type A=list(16)of list(16)of bool;";
        wrongAt(lists, Talk.times("1", 112), 112);
        wrongAt(lists, Talk.times("1", 200), 112);
        wrongAt(lists, Talk.times("1", 111), 111);
        code("type A=list(7)of list(16)of bool;", "[" + Talk.row("[" + Talk.row("true", 12) + "]&[" + Talk.row("false", 4) + "]", 7) + "]", Talk.times(Talk.times("1", 12) + "0000", 7));
        // A TEXT of more than 24 signs is too much, which is told at its first bit.
        String text = "type A=record{l:list(7)of list(15)of bool,t:text};";
        wrongAt(text, Talk.times("0", 105) + "011001", 105);
        wrongAt(text, Talk.times("0", 105) + "011000", 111);
        wrongAt(text, Talk.times("0", 105) + "111111", 105);
        wrongAt(text, Talk.times("0", 105) + "01100", 110);
        wrongAt(text, Talk.times("0", 105) + "011000" + Talk.times(sign('x'), 23), 111 + 161);
        Talk talk = Talk.of(text);
        talk.bits(Talk.times("0", 105) + "011000" + Talk.times(sign('x'), 24));
        Talk.due("24 signs", talk.x.decode(0), 0);
        Talk.due("weigh 120", talk.x.about(0, 1), 120);
        // A field's name counts with its VALUE: that of b ahead of its bit.
        String record = "type A=record{l:list(7)of list(15)of bool,m:list(2)of bool,b:bool};";
        wrongAt(record, Talk.times("1", 107) + "1", 107);
        wrongAt(record, Talk.times("1", 107), 107);
        code("type A=record{l:list(7)of list(15)of bool,m:list(1)of bool,b:bool};".replace("m:list(1)of bool", "m:bool"),
            "{l:=[" + Talk.row("[" + Talk.row("true", 12) + "]&[true,true,true]", 7) + "],m:=false,b:=true}", Talk.times("1", 105) + "01");
        // No bits at all, but too heavy.
        wrongAt("type A=list(16)of list(16)of int(1);", "", 0);
        wrongAt("type A=record{b:bool,l:list(16)of list(16)of int(1)};", "1", 1);
    }

    private static void bad() {
        Talk talk = Talk.of("type A=bool;");
        int v = talk.keep("true");
        Talk.due("encode, no value", talk.x.encode(v + 1, 0), MatchHouse.BAD);
        Talk.due("encode, no type", talk.x.encode(v, 1), MatchHouse.BAD);
        Talk.due("encode, no type", talk.x.encode(v, -1), MatchHouse.BAD);
        Talk.due("decode, no type", talk.x.decode(1), MatchHouse.BAD);
        Talk.due("decode, no type", talk.x.decode(-1), MatchHouse.BAD);
        talk.bits("1");
        for (int i = 1; i < 40; i++) Talk.due("decode " + i, talk.x.decode(0), i);
        Talk.due("full", talk.x.decode(0), MatchHouse.FULL);
        Talk.due("no type ahead of full", talk.x.decode(1), MatchHouse.BAD);
    }
}
