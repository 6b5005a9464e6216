"""Texts by chance: G makes any modules and exps, G2 cases that mostly go well; feeds() makes calls of a text."""
import re
import struct

class G:

    def __init__(s, r):
        s.r = r

    def ch(s, p):
        return s.r.random() < p

    def name(s):
        return s.r.choice(['f', 'g', 'h', 'k', 'n', 'm2'])

    def num(s):
        r = s.r
        return r.choice([0, 1, 2, 3, 5, 7, 9, 10, 16, 20, 40, 255, 256, 127, 128, 32768, 10 ** 9, 10 ** 9 + 1, 999999999999999, r.randrange(1000)])

    def text(s):
        r = s.r
        n = r.choice([0, 1, 1, 2, 2, 3, 7, 8, 9, 16, 17, 39, 40])
        return '"' + ''.join((r.choice('abcab*? #xyz!~') for _ in range(n))) + '"'

    def module(s, runs=True):
        r = s.r
        nt = r.randrange(0, 9)
        s.T = ['T%d' % i for i in range(nt)]
        ntm = r.randrange(0, 9)
        s.M = ['M%d' % i for i in range(ntm)]
        s.enum = ['red', 'blue', 'low']
        items = []
        s.typedefs = []
        items.append('type E = enum{%s};' % ','.join(s.enum))
        for t in s.T:
            items.append('type %s = %s;' % (t, s.type(0)))
        s.T = s.T + ['E']
        s.ctx = 'templ'
        for i, m in enumerate(s.M):
            s.tmax = i if s.ch(0.97) else ntm
            items.append('template %s = %s;' % (m, s.templ(0)))
        s.tmax = ntm
        if runs:
            nc = r.randrange(1, 4)
            s.Cs = []
            for i in range(nc):
                c = {'n': 'C%d' % i, 'ports': r.sample(['p', 'q', 'o'], r.randrange(1, 4)), 'timers': r.sample(['t', 'u'], r.randrange(0, 3)), 'vars': r.sample(['x', 'y', 'z', 'w'], r.randrange(0, 5))}
                s.Cs.append(c)
            s.U = []
            for i in range(r.randrange(0, 6)):
                s.U.append({'n': 'F%d' % i, 'sort': r.choice(['function', 'function', 'altstep']), 'c': r.choice(s.Cs), 'ps': r.sample(['a', 'b', 'c'], r.randrange(0, 3))})
            for i in range(r.randrange(1, 3)):
                s.U.append({'n': 'K%d' % i, 'sort': 'case', 'c': s.Cs[0], 'ps': []})
            for c in s.Cs:
                own = []
                for p in c['ports']:
                    own.append('port %s;' % p)
                for p in c['timers']:
                    own.append('timer %s;' % p)
                vs = []
                s.unit = None
                s.comp = c
                s.vis = []
                for v in c['vars']:
                    s.vis = list(vs)
                    s.ctx = 'comp'
                    e = s.exp(1) if s.ch(0.5) else s.r.choice(['1', '0', '[]', '{}', '"a"', 'true', 'me', '[1,2]', '{f:=1}'])
                    own.append('var %s%s := %s;' % (v, s.vtype(), e))
                    vs.append(v)
                items.append('component %s {%s}' % (c['n'], ' '.join(own)))
            for u in s.U:
                s.unit = u
                s.comp = u['c']
                s.locs = list(u['ps'])
                s.vis = None
                s.ctx = 'unit'
                body = s.alts(0) if u['sort'] == 'altstep' else s.block(0, r.randrange(1, 9))
                items.append('%s %s on %s(%s)%s' % (u['sort'], u['n'], u['c']['n'], ','.join(u['ps']), body))
        if s.ch(0.5):
            r.shuffle(items)
        return ' '.join(items)

    def vtype(s):
        if s.T and s.ch(0.12):
            return ':' + s.r.choice(s.T)
        return ''

    def span(s, most):
        r = s.r
        a = r.randrange(0, 4)
        b = a + r.randrange(0, 4)
        if s.ch(0.05):
            b = most + r.randrange(0, 2)
        if s.ch(0.02):
            b = a - 1 if a else 0
        return '(%d)' % a if s.ch(0.3) else '(%d..%d)' % (a, b)

    def type(s, d):
        r = s.r
        k = r.choice(['int', 'int', 'bool', 'text', 'enum', 'record', 'record', 'choice', 'list', 'list', 'name', 'name'])
        if d > 3 and k in ('record', 'choice', 'list'):
            k = 'int'
        if k == 'name' and (not s.T):
            k = 'bool'
        if k == 'int':
            if s.ch(0.3):
                return 'int'
            rs = []
            for _ in range(r.randrange(1, 4)):
                a = r.randrange(-20, 40)
                if s.ch(0.1):
                    a = r.choice([-1, 1]) * 999999999999999
                if s.ch(0.5):
                    rs.append(str(a))
                else:
                    rs.append('%d..%d' % (a, a + r.randrange(0, 30) if a < 10 ** 14 else a))
            return 'int(%s)' % ','.join(rs)
        if k == 'bool':
            return 'bool'
        if k == 'text':
            return 'text' + (s.span(40) if s.ch(0.6) else '')
        if k == 'enum':
            return 'enum{%s}' % ','.join(r.sample(s.enum + ['up', 'top'], r.randrange(1, 5)))
        if k == 'record':
            n = r.randrange(0, 4)
            return 'record{%s}' % ','.join(('%s:%s%s' % (f, s.type(d + 1), ' optional' if s.ch(0.5) else '') for f in r.sample(['f', 'g', 'h', 'k', 'n'], n)))
        if k == 'choice':
            n = r.randrange(1, 4)
            return 'choice{%s}' % ','.join(('%s:%s' % (f, s.type(d + 1)) for f in r.sample(['f', 'g', 'h', 'k', 'n'], n)))
        if k == 'list':
            return 'list%s of %s' % (s.span(16) if s.ch(0.6) else '', s.type(d + 1))
        return r.choice(s.T)

    def row(s, f, lo=1, hi=4):
        return ','.join((f() for _ in range(s.r.randrange(lo, hi))))

    def templ(s, d):
        r = s.r
        t = s.tone(d)
        if s.ch(0.1):
            t += ' length' + s.span(40)
        if s.ch(0.1):
            t += ' ifpresent'
        return t

    def tone(s, d):
        r = s.r
        x = r.random()
        leaf = ['?', '?', '*', 'num', 'num', 'range', 'true', 'text', 'omit', 'word', 'tname', 'pattern']
        comp = ['fields', 'fields', 'tag', 'row', 'row', 'row', 'not', 'both', 'some', 'subset', 'superset', 'same']
        k = r.choice(leaf) if d > 3 or x < 0.35 else r.choice(comp)
        T = lambda: s.templ(d + 1)
        if k in '?*':
            return k
        if k == 'num':
            return str(s.num() * r.choice([1, 1, -1]))
        if k == 'range':
            a = r.randrange(-5, 10)
            return '%d..%d' % (a, a + r.randrange(0, 20))
        if k == 'true':
            return r.choice(['true', 'false'])
        if k == 'text':
            return s.text()
        if k == 'omit':
            return 'omit'
        if k == 'word':
            return r.choice(s.enum)
        if k == 'tname':
            if s.tmax:
                return s.r.choice(s.M[:s.tmax])
            return '?'
        if k == 'pattern':
            return 'pattern "%s"' % ''.join((r.choice('ab*?*') for _ in range(r.randrange(0, 6))))
        if k == 'fields':
            return '{%s}' % ','.join(('%s:=%s' % (f, T()) for f in r.sample(['f', 'g', 'h', 'k', 'n'], r.randrange(0, 4))))
        if k == 'tag':
            return '@%s %s' % (s.name(), T())
        if k == 'row':
            ps = []
            for _ in range(r.randrange(0, 5)):
                if s.ch(0.15):
                    ps.append('perm(%s)' % s.row(T))
                elif s.ch(0.2):
                    ps.append('*')
                else:
                    ps.append(T())
            return '[%s]' % ','.join(ps)
        if k == 'some':
            return '(%s)' % s.row(T)
        if k == 'same':
            return '=(%s)' % s.exp(2)
        return '%s(%s)' % (k, s.row(T))

    def exp(s, d):
        r = s.r
        x = r.random()
        if d > 4 or x < 0.4:
            return s.leaf()
        k = r.choice(['bin', 'bin', 'bin', 'bin', 'un', 'rec', 'rec', 'list', 'list', 'par', 'field', 'index', 'tag', 'met', 'and', 'cmp', 'cat', 'ended'])
        E = lambda: s.exp(d + 1)
        if k == 'bin':
            return '%s %s %s' % (E(), r.choice(['+', '-', '*', '/', '%', '+', '-']), E())
        if k == 'cmp':
            return '(%s %s %s)' % (E(), r.choice(['==', '!=', '<', '<=', '>', '>=']), E())
        if k == 'cat':
            return '%s & %s' % (E(), E())
        if k == 'and':
            return '(%s %s %s)' % (E(), r.choice(['&&', '||']), E())
        if k == 'un':
            return '%s %s' % (r.choice(['-', '!', 'size']), E())
        if k == 'rec':
            return '{%s}' % ','.join(('%s:=%s' % (f, E()) for f in r.sample(['f', 'g', 'h', 'k', 'n'], r.randrange(0, 4))))
        if k == 'list':
            return '[%s]' % ','.join((E() for _ in range(r.randrange(0, 4))))
        if k == 'par':
            return '(%s)' % E()
        if k == 'field':
            return '%s.%s' % (s.leaf(True), s.name())
        if k == 'index':
            return '%s[%s]' % (s.leaf(True), E())
        if k == 'tag':
            return '@%s %s' % (s.name(), E())
        if k == 'ended':
            return 'ended(%s)' % E() if s.ctx in ('unit', 'comp') else '1'
        if k == 'met':
            if s.ctx in ('unit', 'comp'):
                return 'met(%s,%s)' % (E(), s.templ(2))
            return '(%s)' % E()

    def leaf(s, coll=False):
        r = s.r
        if s.ctx in ('unit', 'comp') and s.ch(0.55):
            vs = s.vis if s.ctx == 'comp' else s.locs + s.comp['vars']
            if vs:
                return r.choice(vs)
        o = ['num'] * 4 + ['true', 'false', 'text', 'omit', 'word', 'list', 'rec', 'nums']
        if s.ctx in ('unit', 'comp'):
            o += ['me', 'now', 'verdict', 'active']
        k = r.choice(o)
        if coll:
            k = r.choice(['list', 'rec', 'nums', 'ch'])
        if k == 'num':
            return str(s.num())
        if k in ('true', 'false', 'omit', 'me', 'now', 'verdict'):
            return k
        if k == 'text':
            return s.text()
        if k == 'word':
            return r.choice(s.enum)
        if k == 'list':
            return r.choice(['[]', '["a"]', '[true,false]', '[red]'])
        if k == 'nums':
            return '[%s]' % ','.join((str(r.randrange(10)) for _ in range(r.randrange(0, 6))))
        if k == 'rec':
            return r.choice(['{}', '{f:=1}', '{f:=2,g:=[1]}', '{g:=true,h:={f:=1}}'])
        if k == 'ch':
            return r.choice(['(@f 1)', '(@g [2,3])', '(@h {f:=1})'])
        if k == 'active':
            if s.comp['timers']:
                return 'active ' + r.choice(s.comp['timers'])
            return 'now'

    def block(s, d, n=None):
        if n is None:
            n = s.r.randrange(0, 4)
        return '{%s}' % ' '.join((s.stmt(d) for _ in range(n)))

    def alts(s, d):
        return '{%s}' % ' '.join((s.branch(d) for _ in range(s.r.randrange(0, 4))))

    def guard(s):
        if s.ch(0.6):
            return ''
        return s.r.choice(['true', 'false', s.boolexp(), s.boolexp(), s.exp(2)])

    def boolexp(s):
        return '%s %s %s' % (s.exp(3), s.r.choice(['==', '!=', '<', '>=']), s.exp(3))

    def event(s):
        r = s.r
        k = r.choice(['receive', 'receive', 'receive', 'timeout', 'done'])
        if k == 'timeout' and (not s.comp['timers']):
            k = 'receive'
        if k == 'receive':
            return 'receive %s %s%s%s' % (r.choice(s.comp['ports']), r.choice(['?', '?', '*', s.templ(2), s.templ(1), '=(%s)' % s.exp(3)]), ' from ' + s.exp(3) if s.ch(0.15) else '', ' into ' + s.var() if s.var() and s.ch(0.4) else '')
        if k == 'timeout':
            return 'timeout ' + r.choice(s.comp['timers'])
        return 'done ' + r.choice(['me', s.exp(3)] + s.locs + s.comp['vars'])

    def var(s):
        vs = s.locs + s.comp['vars']
        return s.r.choice(vs) if vs else 'a' if s.ch(0.02) else (s.comp['vars'] or [''])[0]

    def steps(s, sort, same):
        us = [u for u in s.U if u['sort'] == sort and (not same or u['c'] is s.comp)]
        return s.r.choice(us) if us else None

    def args(s, u, d=3):
        n = len(u['ps'])
        if s.ch(0.01):
            n += 1
        return '(%s)' % ','.join((s.exp(d) for _ in range(n)))

    def branch(s, d):
        if s.ch(0.12):
            return '[else]' + s.block(d + 1, s.r.randrange(0, 3))
        u = s.steps('altstep', True)
        if u and s.ch(0.2):
            return '[%s] step %s%s;' % (s.guard(), u['n'], s.args(u))
        return '[%s] %s %s' % (s.guard(), s.event(), s.block(d + 1, s.r.randrange(0, 3)))

    def stmt(s, d):
        r = s.r
        k = r.choice(['var', 'assign', 'assign', 'assign', 'assign', 'if', 'while', 'return', 'call', 'call', 'set', 'log', 'log', 'send', 'send', 'send', 'alt', 'alt', 'event', 'begin', 'halt', 'create', 'create', 'start', 'start', 'connect', 'connect', 'stop', 'usual', 'usual', 'unusual'])
        E = lambda: s.exp(2)
        if d > 2 and k in ('if', 'while', 'alt'):
            k = 'log'
        if k == 'stop' and s.ch(0.5):
            k = 'log'
        if k == 'return' and s.ch(0.6):
            k = 'send'
        if k == 'var':
            free = [v for v in ['a', 'b', 'c', 'd', 'e'] if v not in s.locs]
            if not free:
                k = 'log'
            else:
                v = r.choice(free)
                t = 'var %s%s := %s;' % (v, s.vtype(), E())
                s.locs.append(v)
                return t
        if k == 'assign':
            v = s.var()
            if not v:
                k = 'log'
            else:
                path = ''
                while s.ch(0.35):
                    path += r.choice(['.' + s.name(), '[%s]' % r.choice(['0', '0', '1', '2', s.exp(3)])])
                return '%s%s := %s;' % (v, path, E())
        if k == 'if':
            return 'if %s %s%s' % (s.boolexp() if s.ch(0.9) else E(), s.block(d + 1), ' else ' + s.block(d + 1) if s.ch(0.5) else '')
        if k == 'while':
            return 'while %s %s' % (s.boolexp(), s.block(d + 1))
        if k == 'return':
            return 'return%s;' % (' ' + E() if s.ch(0.7) else '')
        if k == 'call':
            u = s.steps('function', True)
            if u:
                return 'call %s%s%s;' % (u['n'], s.args(u), ' into ' + s.var() if s.var() and s.ch(0.6) else '')
            k = 'log'
        if k == 'set':
            return 'set %s;' % r.choice(['pass', 'inconc', 'fail'])
        if k == 'send':
            return 'send %s %s;' % (r.choice(s.comp['ports']), E())
        if k == 'alt':
            return 'alt ' + s.alts(d + 1)
        if k == 'event':
            return s.event() + ';'
        if k == 'begin':
            if s.comp['timers']:
                return 'begin %s %s;' % (r.choice(s.comp['timers']), r.choice(['1', '2', '5', E()]))
            k = 'log'
        if k == 'halt':
            if s.comp['timers']:
                return 'halt %s;' % r.choice(s.comp['timers'])
            k = 'log'
        if k == 'create':
            v = s.var()
            if v:
                return 'create %s into %s;' % (r.choice(s.Cs)['n'], v)
            k = 'log'
        cv = lambda: r.choice(['me'] + s.locs + s.comp['vars'])
        if k == 'start':
            u = s.steps('function', False)
            if u:
                return 'start %s as %s%s;' % (cv(), u['n'], s.args(u))
            k = 'log'
        if k == 'connect':
            ps = [p for c in s.Cs for p in c['ports']]
            return 'connect %s at %s with %s at %s;' % (cv(), r.choice(ps), cv(), r.choice(ps))
        if k == 'stop':
            return 'stop%s;' % (' ' + cv() if s.ch(0.8) else '')
        if k == 'usual':
            u = s.steps('altstep', True)
            if u:
                return 'usual %s%s;' % (u['n'], s.args(u))
            k = 'log'
        if k == 'unusual':
            return 'unusual;' if s.ch(0.3) else 'log 1;'
        return 'log %s;' % E()

    def mutate(s, t):
        r = s.r
        toks = t.split(' ')
        toks = re.findall('"[^"]*"|\\w+|\\.\\.|:=|==|!=|<=|>=|&&|\\|\\||\\S', t)
        for _ in range(r.randrange(1, 3)):
            i = r.randrange(len(toks))
            k = r.randrange(6)
            if k == 0:
                del toks[i]
            elif k == 1:
                toks.insert(i, r.choice(toks))
            elif k == 2:
                toks[i] = r.choice(toks)
            elif k == 3:
                j = r.randrange(len(toks))
                toks[i], toks[j] = (toks[j], toks[i])
            elif k == 4:
                toks.insert(i, r.choice(['"', '$', '_a', '1234567890123456', 'abcdefghijklm', '|', 'perm', 'me', 'x', '}', '{', ')', ';', '"' + 'a' * 41 + '"', 'else', '0', '..', '-', 'met']))
            else:
                toks[i] = r.choice(['x', 'f', '0', '?', 'T0', 'M0', 'C0', 'p', 't', 'red', 'me', 'if', 'type'])
            if not toks:
                toks = ['x']
        return ' '.join(toks)

def feeds(t):
    b = t.encode('latin1')
    out = []
    for i in range(0, len(b), 20):
        c = b[i:i + 20]
        n = len(c)
        c = c + b' ' * (20 - n)
        out.append(('feed',) + struct.unpack('>5i', c))
        if n < 20:
            out.append(('end', n))
    return out

class G2(G):
    KIND = {'n': 'num', 'l': 'list', 'r': 'rec', 'd': 'comp', 's': 'text', 'q': 'bool'}

    def module2(s):
        r = s.r
        s.enum = ['red', 'blue']
        s.T = ['N', 'R', 'L', 'S', 'E']
        s.M = ['MA', 'MB', 'MC']
        s.wild = r.choice([0, 0, 0.005, 0.02])
        items = ['type N=int(-50..50);', 'type R=record{f:int optional,g:list of int optional,h:R optional};', 'type L=list(0..5) of N;', 'type S=text(0..6);', 'type E=enum{red,blue};']
        s.ctx = 'templ'
        s.tmax = 0
        items += ['template MA=(0..2,?);', 'template MB={f:=?,g:=* ,h:=*};', 'template MC=([*],{},true,0..9);']
        s.Cs = []
        for i in range(r.randrange(1, 4)):
            c = {'n': 'C%d' % i, 'ports': ['p', 'q', 'o'][:r.randrange(1, 4)], 'timers': ['t', 'u'][:r.randrange(1, 3)], 'vars': r.sample(['n1', 'l1', 'r1', 'd1', 'd2', 's1', 'q1'], r.randrange(3, 8))}
            s.Cs.append(c)
        s.U = []
        for i in range(r.randrange(2, 9)):
            s.U.append({'n': 'F%d' % i, 'sort': r.choice(['function', 'function', 'altstep', 'altstep']), 'c': r.choice(s.Cs[:2]) if s.ch(0.6) else r.choice(s.Cs), 'ps': r.sample(['n3', 'l3', 'r3', 'd3'], r.choice([0, 0, 1, 2]))})
        for i in range(2):
            s.U.append({'n': 'K%d' % i, 'sort': 'case', 'c': s.Cs[0], 'ps': []})
        for c in s.Cs:
            own = ['port %s;' % p for p in c['ports']] + ['timer %s;' % p for p in c['timers']]
            for v in c['vars']:
                s.comp = c
                s.locs = []
                t = {'n': 'N', 'l': 'L', 'r': 'R', 's': 'S'}.get(v[0])
                init = {'n': '1', 'l': '[1,2]', 'r': '{f:=1}', 'd': 'me', 's': '"ab"', 'q': 'true'}[v[0]]
                if s.ch(0.1):
                    init = {'n': 'now+verdict', 'l': '[size "abc"]&[1]', 'r': '{h:={}}', 'd': 'me', 's': '"a"&"b"', 'q': 'met(1,?)&&ended(me)==false'}[v[0]]
                if s.ch(0.01):
                    init = '1/0'
                own.append('var %s%s:=%s;' % (v, ':' + t if t and s.ch(0.3) else '', init))
            items.append('component %s{%s}' % (c['n'], ' '.join(own)))
        for u in s.U:
            s.unit = u
            s.comp = u['c']
            s.locs = list(u['ps'])
            s.ctx = 'unit'
            body = s.alts(0) if u['sort'] == 'altstep' else s.block(0, r.randrange(2, 12) if u['sort'] != 'case' else r.randrange(5, 16))
            items.append('%s %s on %s(%s)%s' % (u['sort'], u['n'], u['c']['n'], ','.join(u['ps']), body))
        if s.ch(0.3):
            r.shuffle(items)
        return ' '.join(items)

    def vars_(s, k):
        return [v for v in s.locs + s.comp['vars'] if v[0] == k]

    def E(s, k, d=0):
        r = s.r
        if s.wild and s.ch(s.wild):
            return s.exp(3)
        vs = s.vars_(k)
        if vs and s.ch(0.6):
            return r.choice(vs)
        if k == 'n':
            if d > 2 or s.ch(0.5):
                return str(r.randrange(0, 12))
            q = r.random()
            if q < 0.5:
                return '(%s%s%s)' % (s.E('n', d + 1), r.choice('+-*'), s.E('n', d + 1))
            if q < 0.6:
                return 'size %s' % s.E(r.choice('lrs'), d + 1)
            if q < 0.7:
                return 'now' if s.ch(0.5) else 'verdict'
            if q < 0.75:
                return '-%s' % s.E('n', d + 1)
            return str(r.randrange(100))
        if k == 'l':
            q = r.random()
            if d > 2 or q < 0.5:
                return '[%s]' % ','.join((s.E('n', d + 1) for _ in range(r.randrange(0, 4))))
            if q < 0.7:
                return '%s&%s' % (s.E('l', d + 1), s.E('l', d + 1))
            return '[%s]' % s.E(r.choice('nlr'), d + 1)
        if k == 'r':
            q = r.random()
            if d > 2 or q < 0.6:
                return '{f:=%s,g:=[%s]}' % (s.E('n', d + 1), s.E('n', d + 1)) if s.ch(0.5) else '{f:=%s}' % s.E('n', d + 1)
            if q < 0.8:
                return '{h:=%s}' % s.E('r', d + 1)
            return '{}'
        if k == 'd':
            return 'me'
        if k == 's':
            return r.choice(['"a"', '"ab"', '""'])
        if k == 'q':
            q = r.random()
            if d > 2 or q < 0.3:
                return r.choice(['true', 'false'])
            if q < 0.6:
                return '(%s%s%s)' % (s.E('n', d + 1), r.choice(['<', '>', '==', '!=', '<=', '>=']), s.E('n', d + 1))
            if q < 0.7:
                return '(%s%s%s)' % (s.E('q', d + 1), r.choice(['&&', '||']), s.E('q', d + 1))
            if q < 0.75:
                return '!%s' % s.E('q', d + 1)
            if q < 0.8:
                return 'ended(%s)' % s.E('d', d + 1)
            if q < 0.87:
                return 'active %s' % r.choice(s.comp['timers'])
            if q < 0.95:
                return 'met(%s,%s)' % (s.E(r.choice('nlrs'), d + 1), s.tm())
            return '(%s==%s)' % (s.E(r.choice('lrsd'), d + 1), s.E(r.choice('lrsd'), d + 1))

    def tm(s):
        r = s.r
        q = r.random()
        if q < 0.4:
            return '?'
        if q < 0.5:
            return '=(%s)' % s.E('n')
        if q < 0.6:
            return r.choice(s.M)
        if q < 0.7:
            return '{f:=?,g:=*,h:=*}'
        if q < 0.8:
            return '(0..9,[*])'
        if q < 0.9:
            return '[%s]' % ','.join((r.choice(['?', '*', '=(%s)' % s.E('n'), '0..5', 'perm(?,1)']) for _ in range(r.randrange(0, 3))))
        s.tmax = 0
        return s.templ(2)

    def guard(s):
        return '' if s.ch(0.6) else s.E('q')

    def event(s):
        r = s.r
        k = r.choice(['receive'] * 5 + ['timeout', 'timeout', 'done'])
        if k == 'receive':
            anyv = s.locs + s.comp['vars']
            return 'receive %s %s%s%s' % (r.choice(s.comp['ports']), s.tm(), ' from ' + s.E('d') if s.ch(0.12) else '', ' into ' + r.choice(anyv) if anyv and s.ch(0.25) else '')
        if k == 'timeout':
            return 'timeout ' + r.choice(s.comp['timers'])
        return 'done ' + s.E('d')

    def args(s, u, d=3):
        return '(%s)' % ','.join((s.E(p[0]) for p in u['ps']))

    def stmt(s, d):
        r = s.r
        k = r.choice(['var', 'assign', 'assign', 'assign', 'part', 'part', 'if', 'while', 'return', 'call', 'call', 'call', 'set', 'log', 'send', 'send', 'send', 'send', 'send', 'alt', 'alt', 'alt', 'event', 'event', 'begin', 'begin', 'halt', 'create', 'create', 'create', 'start', 'start', 'start', 'connect', 'connect', 'connect', 'stop', 'usual', 'usual', 'usual', 'unusual'])
        if d > 2 and k in ('if', 'while', 'alt'):
            k = 'log'
        if k == 'stop' and s.ch(0.8):
            k = 'send'
        if k == 'return' and s.ch(0.85):
            k = 'send'
        if k == 'unusual' and s.ch(0.7):
            k = 'log'
        if k == 'var':
            free = [v for v in ['n5', 'l5', 'r5', 'd5', 's5', 'q5', 'd6'] if v not in s.locs]
            if free and len(s.locs) < 8:
                v = r.choice(free)
                e = s.E(v[0])
                t = {'n': 'N', 'l': 'L', 'r': 'R', 's': 'S'}.get(v[0])
                x = 'var %s%s:=%s;' % (v, ':' + t if t and s.ch(0.15) else '', e)
                s.locs.append(v)
                return x
            k = 'log'
        vs = s.locs + s.comp['vars']
        if k == 'assign' and vs:
            v = r.choice(vs)
            if v[0] != 'd':
                return '%s:=%s;' % (v, s.E(v[0]))
            k = 'log'
        if k == 'part':
            v = [x for x in vs if x[0] in 'lr']
            if v:
                v = r.choice(v)
                if v[0] == 'l':
                    return '%s[%s]:=%s;' % (v, r.choice(['0', '1', 'size ' + v, s.E('n')]) if s.ch(0.3) else '0' if s.ch(0.2) else 'size ' + v if s.ch(0.7) else '0', s.E(r.choice('nnnlr')))
                return '%s.%s:=%s;' % (v, r.choice(['f', 'g', 'h']), r.choice([s.E('n'), s.E('r'), s.E('l'), 'omit']))
            k = 'log'
        if k == 'if':
            return 'if %s %s%s' % (s.E('q'), s.block(d + 1), ' else ' + s.block(d + 1) if s.ch(0.5) else '')
        if k == 'while':
            v = s.vars_('n')
            if v:
                v = r.choice(v)
                b = s.block(d + 1)
                return 'while %s<%d {%s %s:=%s+1;}' % (v, r.randrange(1, 6), b[1:-1], v, v)
            k = 'log'
        if k == 'call':
            u = s.steps('function', True)
            if u:
                return 'call %s%s%s;' % (u['n'], s.args(u), ' into ' + r.choice(vs) if vs and s.ch(0.3) else '')
            k = 'log'
        if k == 'return':
            return 'return%s;' % (' ' + s.E(r.choice('nlr')) if s.ch(0.7) else '')
        if k == 'set':
            return 'set %s;' % r.choice(['pass', 'inconc', 'fail'])
        if k == 'send':
            return 'send %s %s;' % (r.choice(s.comp['ports']), s.E(r.choice('nlrs')))
        if k == 'alt':
            return 'alt ' + s.alts(d + 1)
        if k == 'event':
            return s.event() + ';'
        if k == 'begin':
            return 'begin %s %s;' % (r.choice(s.comp['timers']), r.choice(['1', '2', '3', s.E('n') + '+1']) if s.ch(0.9) else '3')
        if k == 'halt':
            return 'halt %s;' % r.choice(s.comp['timers'])
        if k in ('create', 'start', 'connect'):
            v = s.vars_('d')
            if v:
                v = r.choice(v)
                c = r.choice(s.Cs)
                if k == 'create':
                    x = 'create %s into %s;' % (c['n'], v)
                    if s.ch(0.6):
                        x += 'connect me at %s with %s at %s;' % (r.choice(s.comp['ports']), v, r.choice(c['ports']))
                    us = [u for u in s.U if u['sort'] == 'function' and u['c'] is c]
                    if us and s.ch(0.7):
                        u = r.choice(us)
                        x += 'start %s as %s%s;' % (v, u['n'], s.args(u))
                    return x
                if k == 'start' and s.ch(0.2):
                    u = s.steps('function', False)
                    if u:
                        return 'start %s as %s%s;' % (v, u['n'], s.args(u))
                if k == 'connect' and s.ch(0.3):
                    p = r.choice(s.comp['ports'])
                    return 'connect me at %s with me at %s;' % (p, r.choice(s.comp['ports']))
            k = 'log'
        if k == 'stop':
            return 'stop%s;' % (' ' + s.E('d') if s.ch(0.8) else '')
        if k == 'usual':
            u = s.steps('altstep', True)
            if u:
                return 'usual %s%s;' % (u['n'], s.args(u))
            k = 'log'
        if k == 'unusual':
            return 'unusual;'
        return 'log %s;' % s.E(r.choice('nlrsdq'))
