"""The limits that the document tells, one by one: python3 edges.py."""
from compare import report
from house import *
from texts import *
runs = []
labels = []

def R(label, *steps):
    h = House()
    calls = []

    def c(*a):
        e = getattr(h, a[0])(*a[1:])
        calls.append((a, e))
        return e
    for s in steps:
        if s[0] in ('M', 'V', 'N'):
            for f in feeds(s[1]):
                c(*f)
            c({'M': 'module', 'V': 'value', 'N': 'named'}[s[0]])
            for i in range(11):
                c('count', i)
        else:
            c(*s)
    runs.append(calls)
    labels.append(label)
    return h

def show(label, t):
    h = R(label, ('M', t))

def showv(label, t, m=''):
    h = R(label, ('M', m), ('V', t))
J = ';'.join
for n in (60, 61):
    show('types%d' % n, ''.join(('type T%d=int;' % i for i in range(n))))
    show('templ%d' % n, ''.join(('template T%d=?;' % i for i in range(n))))
for n in (8, 9):
    show('comps%d' % n, ''.join(('component C%d{}' % i for i in range(n))))
for n in (40, 41):
    show('funcs%d' % n, 'component C{}' + ''.join(('%s F%d on C()%s' % (['function', 'altstep', 'case'][i % 3], i, '{}') for i in range(n))))
for n in (6, 7):
    show('ports%d' % n, 'component C{' + ''.join(('port p%d;' % i for i in range(n))) + '}')
for n in (4, 5):
    show('timers%d' % n, 'component C{' + ''.join(('timer p%d;' % i for i in range(n))) + '}')
for n in (8, 9):
    show('vars%d' % n, 'component C{' + ''.join(('var p%d:=1;' % i for i in range(n))) + '}')
for n in (8, 9):
    show('params%d' % n, 'component C{}function f on C(' + ','.join(('p%d' % i for i in range(n))) + '){}')
    show('locals%d' % n, 'component C{}function f on C(a,b){' + ''.join(('var p%d:=1;' % i for i in range(n - 2))) + '}')
for n in (16, 17):
    show('fields%d' % n, 'type R=record{' + ','.join(('f%d:int' % i for i in range(n))) + '};')
    show('alts%d' % n, 'type R=choice{' + ','.join(('f%d:int' % i for i in range(n))) + '};')
    show('words%d' % n, 'type R=enum{' + ','.join(('f%d' % i for i in range(n))) + '};')
    show('tfields%d' % n, 'template R={' + ','.join(('f%d:=?' % i for i in range(n))) + '};')
    showv('vfields%d' % n, '{' + ','.join(('f%d:=1' % i for i in range(n))) + '}', 'template R={' + ','.join(('f%d:=?' % i for i in range(16))) + '};')
for n in (6, 7):
    show('ranges%d' % n, 'type R=int(' + ','.join(('%d' % i for i in range(n))) + ');')
for n in (12, 13):
    for k, l, rr in (('row', '[', ']'), ('some', '(', ')'), ('not', 'not(', ')'), ('perm', '[perm(', ')]'), ('sub', 'subset(', ')')):
        show('%s%d' % (k, n), 'template R=' + l + ','.join(('?' for i in range(n))) + rr + ';')
    showv('list%d' % n, '[' + ','.join(('1' for i in range(n))) + ']')
    show('args%d' % n, 'component C{}function f on C(){call f(' + ','.join(('1' for i in range(n))) + ');}')
    show('rowmix%d' % n, 'template R=[' + ','.join(('?' for i in range(n - 1))) + ',perm(1)];')
for n in (400, 401):
    show('stm%d' % n, 'component C{}function f on C(){' + 'set pass;' * n + '}')
for n in (400, 401):
    show('branch%d' % n, 'component C{}altstep f on C(){' + '[else]{}' * n + '}')
for n in (15, 16, 17):
    showv('par%d' % n, '(' * n + '1' + ')' * n)
    showv('lst%d' % n, '[' * n + ']' * n)
    showv('lst1_%d' % n, '[' * n + '1' + ']' * n)
    showv('idx%d' % n, '[1]' + '[[1]' * 0 + ''.join(('[[0]' for _ in range(n))) + '[0]' + ''.join((']' for _ in range(n))))
    show('tpar%d' % n, 'template T=' + '(' * n + '1' + ')' * n + ';')
    show('tlist%d' % n, 'template T=' + '[' * n + '1' + ']' * n + ';')
    show('tperm%d' % n, 'template T=' + '[perm(' * n + '1' + ')]' * n + ';')
    show('ttag%d' % n, 'template T=' + '@f ' * n + '1;')
    show('tmix%d' % n, 'template T=' + '(' * (n - 3) + '=(' + '((' + '1' + '))' + ')' + ')' * (n - 3) + ';')
    show('type%d' % n, 'type T=' + 'list of ' * n + 'int;')
    show('rtype%d' % n, 'type T=' + 'record{f:' * n + 'int' + '}' * n + ';')
    show('blocks%d' % n, 'component C{}function f on C(){' + 'if true{' * n + '}' * n + '}')
    show('blocks2%d' % n, 'component C{}function f on C(){' + 'alt{[else]{' * (n // 2) + '}}' * (n // 2) + '}')
    show('blocks3%d' % n, 'component C{}function f on C(){' + 'alt{[else]{' * 8 + ('while true{' if n > 15 else '') + ('if true{}else{}' if n > 16 else '') + ('}' if n > 15 else '') + '}}' * 8 + '}')

def nodes(n):
    return 'type A=' + 'record{' + '};'
for n in (2999, 3000, 3001):
    k = (n + 1) // 2
    t = '+'.join(['1'] * k) if n % 2 else '-' + '+'.join(['1'] * k)
    if n % 2 == 0:
        t = '-' + '+'.join(['1'] * (n // 2))
    showv('nodes%d' % n, t)
    t2 = 'template T=?;component C{}function f on C(){var x:=%s;}' % ('-' * (n - 2) + '1')
    show('nodesm%d' % n, t2)
show('nodepath', 'component C{var x:=1;}function f on C(){x%s:=1;}' % ('.f' * 2998))
show('nodepath2', 'component C{var x:=1;}function f on C(){x%s:=1;}' % ('.f' * 2997))
show('noderange', 'type T=int(%s);' % '1..2')
for t in ['text(0..40)', 'text(41)', 'text(0..41)', 'text(3..2)', 'list(16) of int', 'list(17) of int', 'list(0..17)of int', 'list(5..4)of int', 'int(3..2)', 'int(-2..-3)', 'int(5..-3)', 'int(-3..-3)', 'text(-1)', 'text()', 'int()', 'list of', 'enum{}', 'record{}', 'choice{}', 'record{f:int,}', 'enum{a,a}', 'record{f:int,f:int}', 'choice{f:int optional}', 'int(999999999999999)', 'int(-999999999999999..999999999999999)', 'int(1000000000000000)', 'record{f int}', 'text(1..)', 'int(..3)']:
    show('T ' + t, 'type T=%s;' % t)
for t in ['3..2', '3..-2', '-3..-2', '? length(41)', '* length(2..1)', '? length(40) ifpresent', '? ifpresent length(1)', '? length(1) length(2)', '@f ? length(1) length(2)', '@f ? ifpresent length(3) ifpresent', '{}', '{f:=1,f:=2}', '[]', '()', 'not()', 'pattern 1', 'pattern "a"', '=1', '=(1)', '=(me)', '=(met(1,?))', '=(active t)', '=(ended(1))', '=(now+verdict)', '=(x)', 'x', 'T', '[T]', 'perm(1)', '[perm()]', '[perm(perm(1))]', '1..', '-', '-x', '- 5', '-"a"', 'omit', '(1,2', '[1,]', '{f=1}', '{f:=}']:
    show('t ' + t, 'template T=%s;' % t)
for t in ['abcdefghijkl', 'abcdefghijklm', '123456789012345', '1234567890123456', '"' + 'a' * 40 + '"', '"' + 'a' * 41 + '"', '"abc', '"ab\ncd"', '"a\x7fb"', '"a"b"', '$', '|', '||', 'a|b', '_a', 'a_', '1a', 'a1', '\x80', '# x', '1 # x\n+1', '1#', '"#"', '1\x00', '1\x0b2']:
    showv('lex ' + repr(t), t)
    show('mlex ' + repr(t), t)
M = 'type E=enum{red,blue};type R=record{f:int};template TT=red;component C{var v:=1;}'
for t in ['', '1', 'red', 'green', 'f', 'TT', 'C', 'v', 'R', '{f:=1}', '{g:=1}', '{f:=1,g:=zz}', '{zz:=1,zz:=2}', '@f 1', '@g 1', '@zz 1', '{f:=1}.f', '{f:=1}.g', '{f:=1}.zz', 'me', 'now', 'verdict', 'met(1,?)', 'met(zz,?)', 'ended(1)', 'active t', 'active', 'zz+me', 'me+zz', '1+', '1 2', '1)', '(1', '1==1==1', '1<2<3', '1<2==true', '1+2<3&&4>3||false', '!true', '!!true', '--1', '-(-1)', 'size "abc"', 'size [1,2]', 'size {f:=1}', 'size 1', 'size size "a"', '@f @f 1', '-@f 1', '@f -1', '[1,2][0]', '[1,2][2]', '[1,2][-1]', '[[1]][0][0]', '"a"&"b"', '[1]&[2]', '1&2', '"a"&[1]', '1/0', '1%0', '7/2', '-7/2', '7/-2', '-7%3', '7%-3', '999999999999999+1', '999999999999999+2', '-999999999999999-1', '-999999999999999-2', '999999999999999*1000', '31622777*31622777', '31622776*31622776', 'omit==omit', 'omit', '[omit]', '{f:=omit}', '@f omit', 'true&&1', '1&&true', 'false&&1', 'true||1', 'false||1', '1||true', 'omit.f', '[].f', '1[0]', '{f:=1}[0]', '"abc"[0]', 'true==false', 'red==red', 'red!=blue', 'red<blue', '"a"<"b"', '{f:=1}=={f:=1}', '[1]==[1]', '[1]!=[2]', '1=="1"', 'record', 'type', 'if', '{f:=1,}', '{f:1}', '[1,]', '"' + 'a' * 40 + '"&"b"', '"' + 'a' * 39 + '"&"b"', '[1,2,3,4,5,6,7,8]&[1,2,3,4,5,6,7,8]', '[1,2,3,4,5,6,7,8]&[1,2,3,4,5,6,7,8,9]', '(1)', '((red))', '1;', '{f:=me,f:=1}', 'zz.zz', '[zz', '1..2']:
    showv('val ' + t, t, M)
big = '[' + ','.join(['"' + 'a' * 40 + '"'] * 12) + ']'
showv('w73', big)
showv('w?', '[' + big + ',' + '[' + ','.join(['"' + 'a' * 40 + '"'] * 7) + ',' + '1,1]]')
for k in range(0, 8):
    showv('w120-%d' % k, '[' + big + ',[' + ','.join(['"' + 'a' * 40 + '"'] * 7) + ']' + ',1' * k + ']')
showv('deep', '@f ' * 119 + '1', 'template T={f:=?};')
showv('deep2', '@f ' * 120 + '1', 'template T={f:=?};')
showv('deepl', '@f ' * 118 + '"a"', 'template T={f:=?};')
showv('deepl2', '@f ' * 119 + '"a"', 'template T={f:=?};')
show('dup1', 'type A=int;type A=int;')
show('dup2', 'type A=int;template A=?;')
show('dup3', 'component A{}function A on A(){}')
show('dup4', 'component C{port p;timer p;}')
show('dup5', 'component C{port p;var p:=1;}')
show('dup6', 'component C{var x:=x;}')
show('dup7', 'component C{var x:=1;var x:=2;}')
show('own above', 'component C{var y:=x;var x:=1;}')
show('own above2', 'type E=enum{x};component C{var y:=x;var x:=1;}')
show('shadow below', 'function f on C(x){log x;}component C{var x:=1;}')
show('shadow above', 'component C{var x:=1;}function f on C(x){}')
show('shadow port', 'component C{port x;}function f on C(){var x:=1;}')
show('shadow timer', 'component C{timer x;}case f on C(){var x:=1;}')
show('twice', 'component C{}function f on C(a,a){}')
show('twice2', 'component C{}function f on C(a){var a:=1;}')
show('twice3', 'component C{}function f on C(){if true{var a:=1;}else{var a:=2;}}')
show('behind exp', 'component C{}function f on C(){var a:=a;}')
show('behind exp2', 'function f on C(){var a:=a;}component C{var a:=1;}')
show('below', 'component C{}function f on C(){log a;var a:=1;}')
show('below2', 'component C{}function f on C(){a:=1;var a:=1;}')
show('case params', 'component C{}case f on C(a){}')
show('nocomp', 'function f on C(){}')
show('nocomp2', 'type C=int;function f on C(){}')
show('call case', 'component C{}case k on C(){}function f on C(){call k();}')
show('call alt', 'component C{}altstep k on C(){}function f on C(){call k();}')
show('call other', 'component C{}component D{}function k on D(){}function f on C(){call k();}')
show('start other', 'component C{}component D{}function k on D(){}function f on C(){start me as k();}')
show('start alt', 'component C{}altstep k on C(){}function f on C(){start me as k();}')
show('usual f', 'component C{}function k on C(){}function f on C(){usual k();}')
show('args', 'component C{}function k on C(a){}function f on C(){call k();}')
show('args2', 'component C{}function k on C(a){}function f on C(){call k(1,2);}')
show('args3', 'component C{}altstep k on C(a){}function f on C(){usual k();}')
show('args4', 'component C{}altstep k on C(){[]step k(1);}')
show('least', 'component C{}function k on C(a){}function f on C(){call k();log zz;}type A=A;')
show('least2', 'type A=A;component C{}function f on C(){log zz;}')
show('cyc', 'type A=B;type B=A;type C=A;')
show('cyc2', 'type C=A;type A=B;type B=A;')
show('cyc3', 'type A=record{f:A};')
show('cyc4', 'type A=list of A;')
show('cyc5', 'type A=B;type B=record{f:A};')
show('tcyc', 'template A=A;')
show('tcyc2', 'template A=B;template B=C;template C=B;')
show('tcyc3', 'template A={f:=A};')
show('tcyc4', 'template A=?;template B=(A,A);')
for n in (58, 59, 60):
    show('tdepth%d' % n, ''.join(('template T%d=T%d;' % (i, i + 1) for i in range(n - 1))) + 'template T%d=?;' % (n - 1))
    show('tdepthb%d' % n, ''.join(('template T%d=%s;' % (i, 'T%d' % (i + 1)) for i in range(n - 1))) + 'template T%d=(?);' % (n - 1))
    show('tdepthc%d' % n, ''.join(('template T%d=T%d;' % (i, i + 1) for i in range(n - 1))) + 'template T%d=[perm(?)];' % (n - 1))
show('ports', 'component C{port p;}component D{port q;}function f on C(){send q 1;}')
show('ports2', 'component C{port p;}component D{port q;}function f on C(){connect me at q with me at p;}')
show('ports3', 'component C{port p;}function f on C(){connect me at p with me at zz;}')
show('timers', 'component C{timer t;}component D{}function f on D(){begin t 1;}')
show('timers2', 'component C{var x:=active t;timer t;}')
show('timers3', 'component C{var x:=active u;timer t;}')
show('timers4', 'component C{port t;}function f on C(){log active t;}')
show('into', 'type E=enum{red};component C{port p;}function f on C(){receive p ? into red;}')
show('into2', 'component C{port p;var x:=1;}function f on C(){receive p ? into x;}')
show('assign', 'type E=enum{red};component C{}function f on C(){red:=1;}')
show('assign2', 'component C{port p;}function f on C(){p:=1;}')
show('templword', 'type E=enum{red};template A=red;template B=blue;')
show('templvar', 'component C{var x:=1;port p;}function f on C(){receive p x;}')
show('templtype', 'type R=int;template A=R;')
show('create', 'component C{var x:=1;}function f on C(){create C into x;create D into x;}')
show('create2', 'component C{var x:=1;}function f on C(){create C;}')
show('vtype', 'component C{var x:Z:=1;}')
show('vtype2', 'component C{}function f on C(){var x:Z:=zz;}')
show('else', 'component C{}function f on C(){alt{[else]{}[]done me{}}}')
show('step stm', 'component C{}function f on C(){step f();}')
show('else2', 'component C{}function f on C(){if true{}else if true{}}')
show('branch', 'component C{}function f on C(){alt{[true]}}')
show('branch2', 'component C{}function f on C(){alt{[]}}')
show('branch3', 'component C{}function f on C(){alt{[]log 1;}}')
show('branch4', 'component C{port p;}function f on C(){alt{[]receive p ?;}}')
show('branch5', 'component C{}altstep f on C(){log 1;}')
show('set', 'component C{}function f on C(){set error;}')
show('set2', 'component C{}function f on C(){set 1;}')
show('end1', 'type A=int')
show('end2', 'type')
show('end3', 'component C{')
show('end4', 'type A=record{f:int')
show('end5', 'template A=[1,   # x')
for t in ['T', 'TT ', '#a\nT', 'T T', 't', '', 'int', '"T"', 'T1', 'x', 'U', 'C', 'F', 'T;', 'abcdefghijklm']:
    h = R('named ' + t, ('M', 'type U=int;type T=int;template x=?;component C{}function F on C(){}altstep G on C(){}case K on C(){}'), ('N', t))
report(runs, labels)
