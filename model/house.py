"""A second, slow reading of ../../shared/DOC.md: trees, exceptions, no limits of memory. MatchHouse is held against it."""
import sys
sys.setrecursionlimit(20000)
BAD, NONE, FULL = (-1, -2, -3)
LIM = 10 ** 15

class Fault(Exception):

    def __init__(s, k, p):
        s.k = k
        s.p = p

class Err(Exception):

    def __init__(s, c):
        s.c = c
RES = set('type template component function altstep case on port timer var int bool text enum record choice list of optional length ifpresent true false omit not both pattern subset superset perm size me now verdict met ended active if else while return call into set pass inconc fail log send alt begin halt create start as connect at with stop usual unusual step receive from timeout done'.split())
assert len(RES) == 66
SIGNS2 = ['..', ':=', '==', '!=', '<=', '>=', '&&', '||']
SIGNS1 = '(){}[],;:.?*+-/%=<>&!@'
L = 'abcdefghijklmnopqrstuvwxyzABCDEFGHIJKLMNOPQRSTUVWXYZ'

def lex(b):
    """list of (kind,val,place); ends with ('END') or ('LEX') fault"""
    s = b.decode('latin1')
    i = 0
    out = []
    while True:
        while i < len(s):
            if s[i] in '\t\n\r ':
                i += 1
            elif s[i] == '#':
                while i < len(s) and s[i] != '\n':
                    i += 1
            else:
                break
        if i >= len(s):
            out.append(('END', None, len(s)))
            return out
        c = s[i]
        if c in L:
            j = i
            while j < len(s) and (s[j] in L or s[j] in '0123456789_'):
                j += 1
            w = s[i:j]
            if len(w) > 12:
                out.append(('LEX', None, i))
                return out
            out.append(('KEY' if w in RES else 'WORD', w, i))
            i = j
        elif c in '0123456789':
            j = i
            while j < len(s) and s[j] in '0123456789':
                j += 1
            if j - i > 15:
                out.append(('LEX', None, i))
                return out
            out.append(('NUM', int(s[i:j]), i))
            i = j
        elif c == '"':
            j = i + 1
            while j < len(s) and 32 <= ord(s[j]) <= 126 and (s[j] != '"'):
                j += 1
            if j >= len(s) or s[j] != '"' or j - i - 1 > 40:
                out.append(('LEX', None, i))
                return out
            out.append(('TEXT', s[i + 1:j], i))
            i = j + 1
        elif s[i:i + 2] in SIGNS2:
            out.append(('SIGN', s[i:i + 2], i))
            i += 2
        elif c in SIGNS1:
            out.append(('SIGN', c, i))
            i += 1
        else:
            out.append(('LEX', None, i))
            return out
OM = ('o',)

def weight(v):
    k = v[0]
    if k == 't':
        return 1 + (len(v[1]) + 7) // 8
    if k == 'r':
        return 1 + sum((1 + weight(x) for _, x in v[1]))
    if k == 'ch':
        return 1 + weight(v[2])
    if k == 'l':
        return 1 + sum((weight(x) for x in v[1]))
    return 1

def rec(d):
    return ('r', tuple(sorted(d.items())))

def chk(v):
    if weight(v) > 120:
        raise Err(3)
    return v

class P:
    """parser: straightforward recursive descent"""

    def __init__(s, toks, module=None, valuemode=False):
        s.t = toks
        s.i = 0
        s.nodes = 0
        s.valuemode = valuemode
        s.late = []
        s.mod = module
        s.types = []
        s.templs = []
        s.comps = []
        s.units = []
        s.stmts = []
        s.names = {}
        s.enumwords = set()
        s.deferred = []
        s.ctx = None
        s.bare = False
        s.check_lex()

    def check_lex(s):
        if s.t[s.i][0] == 'LEX':
            raise Fault(1, s.t[s.i][2])

    @property
    def k(s):
        return s.t[s.i][0]

    @property
    def v(s):
        return s.t[s.i][1]

    @property
    def p(s):
        return s.t[s.i][2]

    def adv(s):
        s.i += 1
        s.check_lex()

    def fail(s, k):
        raise Fault(k, s.p)

    def issign(s, x):
        return s.k == 'SIGN' and s.v == x

    def iskey(s, x):
        return s.k == 'KEY' and s.v == x

    def is_(s, x):
        return s.k in ('SIGN', 'KEY') and s.v == x

    def need(s, x):
        if not s.is_(x):
            s.fail(2)
        s.adv()

    def opt(s, x):
        if s.is_(x):
            s.adv()
            return True
        return False

    def node(s):
        if s.nodes >= 3000:
            s.fail(5)
        s.nodes += 1

    def needword(s):
        if s.k != 'WORD':
            s.fail(2)

    def module(s):
        while s.k != 'END':
            if s.is_('type'):
                s.item_type()
            elif s.is_('template'):
                s.item_templ()
            elif s.is_('component'):
                s.item_comp()
            elif s.is_('function') or s.is_('altstep') or s.is_('case'):
                s.item_unit()
            else:
                s.fail(2)
        s.settle()

    def modname(s, fam, lst, most):
        s.needword()
        if s.v in s.names:
            s.fail(3)
        if len(lst) >= most:
            s.fail(5)
        s.names[s.v] = (fam, len(lst))
        r = (s.v, s.p)
        s.adv()
        return r

    def item_type(s):
        s.adv()
        n, p = s.modname('type', s.types, 60)
        e = {'name': n, 'place': p, 't': None}
        s.types.append(e)
        s.need('=')
        e['t'] = s.type(0)
        s.need(';')

    def type(s, d):
        if not (s.k == 'WORD' or (s.k == 'KEY' and s.v in ('int', 'bool', 'text', 'enum', 'record', 'choice', 'list'))):
            s.fail(2)
        if d > 16:
            s.fail(5)
        s.node()
        if s.k == 'WORD':
            r = {'k': 'name', 'w': s.v, 'ref': None}
            s.deferred.append(('type', s.p, s.v, r))
            s.adv()
            return r
        w = s.v
        s.adv()
        if w == 'int':
            r = {'k': 'int', 'ranges': None}
            if s.opt('('):
                rs = []
                while True:
                    if not (s.k == 'NUM' or s.is_('-')):
                        s.fail(2)
                    if len(rs) == 6:
                        s.fail(5)
                    s.node()
                    a = s.num(None)
                    b = a
                    if s.opt('..'):
                        b = s.num(a)
                    rs.append((a, b))
                    if not s.opt(','):
                        break
                s.need(')')
                r['ranges'] = rs
            return r
        if w == 'bool':
            return {'k': 'bool'}
        if w == 'text':
            sp = (0, 40)
            if s.is_('('):
                sp = s.span(40)
            return {'k': 'text', 'span': sp}
        if w == 'enum':
            s.need('{')
            ws = []
            while True:
                s.needword()
                if s.v in ws:
                    s.fail(3)
                if len(ws) == 16:
                    s.fail(5)
                ws.append(s.v)
                s.enumwords.add(s.v)
                s.adv()
                if not s.opt(','):
                    break
            s.need('}')
            return {'k': 'enum', 'words': ws}
        if w in ('record', 'choice'):
            s.need('{')
            fs = []
            if not (w == 'record' and s.is_('}')):
                while True:
                    s.needword()
                    if s.v in [f[0] for f in fs]:
                        s.fail(3)
                    if len(fs) == 16:
                        s.fail(5)
                    s.node()
                    n = s.v
                    s.adv()
                    s.need(':')
                    t = s.type(d + 1)
                    o = False
                    if w == 'record' and s.opt('optional'):
                        o = True
                    fs.append((n, t, o))
                    if not s.opt(','):
                        break
            s.need('}')
            return {'k': w, 'fields': fs}
        if w == 'list':
            sp = (0, 16)
            if s.is_('('):
                sp = s.span(16)
            s.need('of')
            return {'k': 'list', 'span': sp, 'of': s.type(d + 1)}

    def num(s, least):
        neg = s.opt('-')
        if s.k != 'NUM':
            s.fail(2)
        v = -s.v if neg else s.v
        if least is not None and v < least:
            s.fail(5)
        s.adv()
        return v

    def span(s, most):
        s.need('(')
        if s.k != 'NUM':
            s.fail(2)
        if s.v > most:
            s.fail(5)
        a = b = s.v
        s.adv()
        if s.opt('..'):
            if s.k != 'NUM':
                s.fail(2)
            if s.v > most or s.v < a:
                s.fail(5)
            b = s.v
            s.adv()
        s.need(')')
        return (a, b)

    def item_templ(s):
        s.adv()
        n, p = s.modname('template', s.templs, 60)
        e = {'name': n, 'place': p, 't': None}
        s.templs.append(e)
        s.need('=')
        s.ctx = ('templ',)
        s.bare = True
        e['t'] = s.templ(0)
        s.bare = False
        s.ctx = None
        s.need(';')

    def begins_templ(s):
        if s.k in ('NUM', 'TEXT', 'WORD'):
            return True
        if s.k == 'SIGN':
            return s.v in '?*-{@[(=' and len(s.v) == 1
        if s.k == 'KEY':
            return s.v in ('true', 'false', 'omit', 'not', 'both', 'pattern', 'subset', 'superset')
        return False

    def templ(s, d):
        if not s.begins_templ():
            s.fail(2)
        if d > 16:
            s.fail(5)
        s.node()
        t = s.tone(d)
        t['len'] = None
        t['ifp'] = False
        if s.opt('length'):
            t['len'] = s.span(40)
        if s.opt('ifpresent'):
            t['ifp'] = True
        return t

    def trow(s, d):
        r = []
        while True:
            if not s.begins_templ():
                s.fail(2)
            if len(r) == 12:
                s.fail(5)
            r.append(s.templ(d))
            if not s.opt(','):
                break
        return r

    def tone(s, d):
        if s.k == 'NUM' or s.is_('-'):
            a = s.num(None)
            b = a
            r = {'k': 'num', 'v': ('n', a)}
            if s.opt('..'):
                b = s.num(a)
                r = {'k': 'range', 'a': a, 'b': b}
            return r
        if s.k == 'TEXT':
            v = ('t', s.v)
            s.adv()
            return {'k': 'num', 'v': v}
        if s.k == 'WORD':
            r = {'k': 'word', 'w': s.v, 'ref': None}
            s.deferred.append(('templ', s.p, s.v, r))
            s.adv()
            return r
        w = s.v
        s.adv()
        if w == '?':
            return {'k': 'any'}
        if w == '*':
            return {'k': 'star'}
        if w in ('true', 'false'):
            return {'k': 'num', 'v': ('b', w == 'true')}
        if w == 'omit':
            return {'k': 'omit'}
        if w == '{':
            fs = []
            if not s.is_('}'):
                while True:
                    s.needword()
                    if s.v in [f[0] for f in fs]:
                        s.fail(3)
                    if len(fs) == 16:
                        s.fail(5)
                    s.node()
                    n = s.v
                    s.adv()
                    s.need(':=')
                    fs.append((n, s.templ(d + 1)))
                    if not s.opt(','):
                        break
            s.need('}')
            return {'k': 'fields', 'f': fs}
        if w == '@':
            s.needword()
            n = s.v
            s.adv()
            return {'k': 'tag', 'w': n, 't': s.templ(d + 1)}
        if w == '[':
            ps = []
            if not s.is_(']'):
                while True:
                    if not (s.iskey('perm') or s.begins_templ()):
                        s.fail(2)
                    if len(ps) == 12:
                        s.fail(5)
                    if s.iskey('perm'):
                        s.node()
                        s.adv()
                        s.need('(')
                        ts = s.trow(d + 1)
                        s.need(')')
                        ps.append({'k': 'perm', 'ts': ts})
                    else:
                        ps.append(s.templ(d + 1))
                    if not s.opt(','):
                        break
            s.need(']')
            return {'k': 'row', 'ps': ps}
        if w in ('not', 'both', 'subset', 'superset'):
            s.need('(')
            ts = s.trow(d + 1)
            s.need(')')
            return {'k': w, 'ts': ts}
        if w == '(':
            ts = s.trow(d + 1)
            s.need(')')
            return {'k': 'some', 'ts': ts}
        if w == 'pattern':
            if s.k != 'TEXT':
                s.fail(2)
            v = s.v
            s.adv()
            return {'k': 'pattern', 'v': v}
        if w == '=':
            s.need('(')
            e = s.exp(d + 1)
            s.need(')')
            return {'k': 'same', 'e': e}
        assert 0

    def begins_base(s):
        if s.k in ('NUM', 'TEXT', 'WORD'):
            return True
        if s.k == 'SIGN':
            return s.v in ('{', '[', '(')
        return s.k == 'KEY' and s.v in ('true', 'false', 'omit', 'me', 'now', 'verdict', 'met', 'ended', 'active')

    def begins_exp(s):
        return s.begins_base() or s.is_('-') or s.is_('!') or s.is_('@') or s.is_('size')

    def exp(s, d):
        if not s.begins_exp():
            s.fail(2)
        if d > 16:
            s.fail(5)
        a = s.all_(d)
        while s.is_('||'):
            s.node()
            s.adv()
            a = ('or', a, s.all_(d))
        return a

    def all_(s, d):
        a = s.test(d)
        while s.is_('&&'):
            s.node()
            s.adv()
            a = ('and', a, s.test(d))
        return a

    def test(s, d):
        a = s.sum_(d)
        if s.k == 'SIGN' and s.v in ('==', '!=', '<', '<=', '>', '>='):
            o = s.v
            s.node()
            s.adv()
            a = ('bin', o, a, s.sum_(d))
        return a

    def sum_(s, d):
        a = s.term(d)
        while s.k == 'SIGN' and s.v in ('+', '-', '&'):
            o = s.v
            s.node()
            s.adv()
            a = ('bin', o, a, s.term(d))
        return a

    def term(s, d):
        a = s.one(d)
        while s.k == 'SIGN' and s.v in ('*', '/', '%'):
            o = s.v
            s.node()
            s.adv()
            a = ('bin', o, a, s.one(d))
        return a

    def fname(s):
        s.needword()
        w = s.v
        if s.valuemode and w not in s.mod.words:
            s.late.append((s.p, 4))
        s.adv()
        return w

    def one(s, d):
        if not s.begins_exp():
            s.fail(2)
        if s.is_('-') or s.is_('!') or s.is_('size'):
            o = s.v
            s.node()
            s.adv()
            return ('un', o, s.one(d))
        if s.is_('@'):
            s.node()
            s.adv()
            w = s.fname()
            return ('tag', w, s.one(d))
        a = s.base(d)
        while True:
            if s.is_('.'):
                s.node()
                s.adv()
                a = ('field', a, s.fname())
            elif s.is_('['):
                s.node()
                s.adv()
                e = s.exp(d + 1)
                s.need(']')
                a = ('index', a, e)
            else:
                return a

    def exps(s, d):
        r = []
        while True:
            if not s.begins_exp():
                s.fail(2)
            if len(r) == 12:
                s.fail(5)
            r.append(s.exp(d))
            if not s.opt(','):
                return r

    def base(s, d):
        s.node()
        if s.k == 'NUM':
            v = s.v
            s.adv()
            return ('const', ('n', v))
        if s.k == 'TEXT':
            v = s.v
            s.adv()
            return ('const', ('t', v))
        if s.k == 'WORD':
            w = s.v
            r = s.wordexp(w)
            s.adv()
            return r
        w = s.v
        if s.bare and w in ('me', 'now', 'verdict', 'ended', 'active', 'met'):
            s.late.append((s.p, 4))
        s.adv()
        if w in ('true', 'false'):
            return ('const', ('b', w == 'true'))
        if w == 'omit':
            return ('const', OM)
        if w in ('me', 'now', 'verdict'):
            return (w,)
        if w == '{':
            fs = []
            if not s.is_('}'):
                while True:
                    s.needword()
                    if s.v in [f[0] for f in fs]:
                        s.fail(3)
                    if len(fs) == 16:
                        s.fail(5)
                    s.node()
                    n = s.fname()
                    s.need(':=')
                    fs.append((n, s.exp(d + 1)))
                    if not s.opt(','):
                        break
            s.need('}')
            return ('rec', fs)
        if w == '[':
            es = []
            if not s.is_(']'):
                es = s.exps(d + 1)
            s.need(']')
            return ('list', es)
        if w == '(':
            e = s.exp(d + 1)
            s.need(')')
            return e
        if w == 'met':
            s.need('(')
            e = s.exp(d + 1)
            s.need(',')
            t = s.templ(d + 1)
            s.need(')')
            return ('met', e, t)
        if w == 'ended':
            s.need('(')
            e = s.exp(d + 1)
            s.need(')')
            return ('ended', e)
        if w == 'active':
            s.needword()
            r = ['active', None]
            s.deferred.append(('timer', s.p, s.v, r, s.ctx))
            s.adv()
            return r
        assert 0

    def wordexp(s, w):
        c = s.ctx
        if c and c[0] == 'unit':
            u = c[1]
            if w in u['told']:
                return ('local', u['told'].index(w))
        if c and c[0] == 'comp':
            if w in [x[0] for x in c[1]['vars']]:
                return ('own', [x[0] for x in c[1]['vars']].index(w))
        r = ['wordref', None]
        s.deferred.append(('exp', s.p, w, r, c))
        return r

    def item_comp(s):
        s.adv()
        n, p = s.modname('component', s.comps, 8)
        c = {'name': n, 'ports': [], 'timers': [], 'vars': []}
        s.comps.append(c)
        s.ctx = ('comp', c)
        s.need('{')
        while not s.is_('}'):
            if s.k != 'KEY' or s.v not in ('port', 'timer', 'var'):
                s.fail(2)
            w = s.v
            s.adv()
            s.needword()
            if s.v in c['ports'] or s.v in c['timers'] or s.v in [x[0] for x in c['vars']]:
                s.fail(3)
            l = c[w + 's']
            most = {'port': 6, 'timer': 4, 'var': 8}[w]
            if len(l) >= most:
                s.fail(5)
            nm = s.v
            s.adv()
            if w == 'var':
                ty = [None]
                if s.opt(':'):
                    s.needword()
                    s.deferred.append(('vtype', s.p, s.v, ty))
                    s.adv()
                s.need(':=')
                e = s.exp(0)
                l.append((nm, ty, e))
            else:
                l.append(nm)
            s.need(';')
        s.adv()
        s.ctx = None

    def item_unit(s):
        sort = s.v
        s.adv()
        n, p = s.modname('unit', s.units, 40)
        u = {'name': n, 'sort': sort, 'comp': None, 'cw': None, 'params': 0, 'told': [], 'types': [], 'body': None, 'above': None}
        s.units.append(u)
        s.need('on')
        s.needword()
        if s.v in s.names and s.names[s.v][0] == 'component':
            u['above'] = s.comps[s.names[s.v][1]]
        s.deferred.append(('ucomp', s.p, s.v, u))
        s.adv()
        s.need('(')
        s.ctx = ('unit', u)
        if sort != 'case' and (not s.is_(')')):
            while True:
                s.newlocal(u)
                s.told1(u)
                u['params'] += 1
                if not s.opt(','):
                    break
        s.need(')')
        u['body'] = s.alts(0, u) if sort == 'altstep' else s.block(0, u)
        s.ctx = None

    def newlocal(s, u):
        s.needword()
        a = u['above']
        if s.v in u['told'] or (a and (s.v in a['ports'] or s.v in a['timers'] or s.v in [x[0] for x in a['vars']])):
            s.fail(3)
        if len(u['told']) >= 8:
            s.fail(5)
        u['pending'] = (s.v, [None])
        s.adv()

    def told1(s, u):
        u['told'].append(u['pending'][0])
        u['types'].append(u['pending'][1])

    def block(s, d, u):
        if not s.is_('{'):
            s.fail(2)
        if d > 16:
            s.fail(5)
        s.adv()
        r = []
        while not s.is_('}'):
            r.append(s.stmt(d, u))
        s.adv()
        return r

    def alts(s, d, u):
        if not s.is_('{'):
            s.fail(2)
        if d > 16:
            s.fail(5)
        s.adv()
        r = []
        while not s.is_('}'):
            r.append(s.branch(d, u))
        s.adv()
        return r

    def newst(s, k):
        st = {'k': k, 'n': len(s.stmts)}
        s.stmts.append(st)
        return st

    def branch(s, d, u):
        if not s.is_('['):
            s.fail(2)
        if len(s.stmts) >= 400:
            s.fail(5)
        st = s.newst('branch')
        s.adv()
        st['guard'] = None
        if s.opt('else'):
            s.need(']')
            st['ev'] = 'else'
            st['block'] = s.block(d + 1, u)
            return st
        if not s.is_(']'):
            st['guard'] = s.exp(0)
        s.need(']')
        if s.opt('step'):
            st['ev'] = 'step'
            s.callrest(st, u, 'altstep')
            s.need(';')
            return st
        s.event(st, u)
        st['block'] = s.block(d + 1, u)
        return st

    def event(s, st, u):
        if s.opt('receive'):
            st['ev'] = 'receive'
            s.ownport(st, u)
            st['templ'] = s.templ(0)
            st['from'] = None
            if s.opt('from'):
                st['from'] = s.exp(0)
            s.into(st, u)
        elif s.opt('timeout'):
            st['ev'] = 'timeout'
            s.owntimer(st, u)
        elif s.opt('done'):
            st['ev'] = 'done'
            st['e'] = s.exp(0)
        else:
            s.fail(2)

    def ownport(s, st, u):
        s.needword()
        s.deferred.append(('port', s.p, s.v, st, u))
        s.adv()

    def owntimer(s, st, u):
        s.needword()
        s.deferred.append(('stimer', s.p, s.v, st, u))
        s.adv()

    def into(s, st, u):
        st['into'] = None
        if s.opt('into'):
            s.var_(st, u)

    def var_(s, st, u):
        s.needword()
        if s.v in u['told']:
            st['into'] = ('local', u['told'].index(s.v))
        else:
            s.deferred.append(('var', s.p, s.v, st, u))
        s.adv()

    def callrest(s, st, u, how):
        s.needword()
        w, p = (s.v, s.p)
        s.adv()
        s.need('(')
        a = []
        if not s.is_(')'):
            a = s.exps(0)
        s.need(')')
        st['args'] = a
        s.deferred.append((how, p, w, st, u, len(a)))

    def stmt(s, d, u):
        heads = ('var', 'if', 'while', 'return', 'call', 'set', 'log', 'send', 'alt', 'begin', 'halt', 'create', 'start', 'connect', 'stop', 'usual', 'unusual', 'receive', 'timeout', 'done')
        if not (s.k == 'WORD' or (s.k == 'KEY' and s.v in heads)):
            s.fail(2)
        if len(s.stmts) >= 400:
            s.fail(5)
        st = s.newst('?')
        if s.k == 'WORD':
            st['k'] = 'assign'
            s.var_(st, u)
            path = []
            while True:
                if s.is_('.'):
                    s.node()
                    s.adv()
                    path.append(('f', s.fname()))
                elif s.is_('['):
                    s.node()
                    s.adv()
                    e = s.exp(0)
                    s.need(']')
                    path.append(('i', e))
                else:
                    break
            s.need(':=')
            st['path'] = path
            st['e'] = s.exp(0)
            s.need(';')
            return st
        w = s.v
        if w in ('receive', 'timeout', 'done'):
            st['k'] = 'event'
            st['guard'] = None
            s.event(st, u)
            st['block'] = []
            s.need(';')
            return st
        s.adv()
        st['k'] = w
        if w == 'var':
            s.newlocal(u)
            pend = u['pending']
            if s.opt(':'):
                s.needword()
                s.deferred.append(('vtype', s.p, s.v, pend[1]))
                s.adv()
            s.need(':=')
            st['e'] = s.exp(0)
            u['pending'] = pend
            s.told1(u)
            st['into'] = ('local', len(u['told']) - 1)
        elif w == 'if':
            st['e'] = s.exp(0)
            st['then'] = s.block(d + 1, u)
            st['else'] = []
            if s.opt('else'):
                st['else'] = s.block(d + 1, u)
            return st
        elif w == 'while':
            st['e'] = s.exp(0)
            st['then'] = s.block(d + 1, u)
            return st
        elif w in ('return', 'stop'):
            st['e'] = None
            if not s.is_(';'):
                st['e'] = s.exp(0)
        elif w == 'call':
            s.callrest(st, u, 'call')
            s.into(st, u)
        elif w == 'set':
            if not (s.k == 'KEY' and s.v in ('pass', 'inconc', 'fail')):
                s.fail(2)
            st['to'] = {'pass': 1, 'inconc': 2, 'fail': 3}[s.v]
            s.adv()
        elif w == 'log':
            st['e'] = s.exp(0)
        elif w == 'send':
            s.ownport(st, u)
            st['e'] = s.exp(0)
        elif w == 'alt':
            st['alts'] = s.alts(d + 1, u)
            return st
        elif w == 'begin':
            s.owntimer(st, u)
            st['e'] = s.exp(0)
        elif w == 'halt':
            s.owntimer(st, u)
        elif w == 'create':
            s.needword()
            s.deferred.append(('newcomp', s.p, s.v, st))
            s.adv()
            if not s.is_('into'):
                s.fail(2)
            s.into(st, u)
        elif w == 'start':
            st['e'] = s.exp(0)
            s.need('as')
            s.callrest(st, u, 'start')
        elif w == 'connect':
            st['e'] = s.exp(0)
            s.need('at')
            s.needword()
            st['p1'] = s.v
            s.deferred.append(('anyport', s.p, s.v))
            s.adv()
            s.need('with')
            st['e2'] = s.exp(0)
            s.need('at')
            s.needword()
            st['p2'] = s.v
            s.deferred.append(('anyport', s.p, s.v))
            s.adv()
        elif w == 'usual':
            s.callrest(st, u, 'altstep')
        elif w == 'unusual':
            pass
        s.need(';')
        return st

    def settle(s):
        for d in s.deferred:
            if d[0] == 'ucomp':
                n = s.names.get(d[2])
                if n and n[0] == 'component':
                    d[3]['comp'] = n[1]

        def bad(d):
            s.late.append((d[1], 4))
        for d in s.deferred:
            n = s.names.get(d[2])
            k = d[0]
            if k == 'ucomp':
                if d[3]['comp'] is None:
                    bad(d)
            elif k == 'type':
                if n and n[0] == 'type':
                    d[3]['ref'] = n[1]
                else:
                    bad(d)
            elif k == 'vtype':
                if n and n[0] == 'type':
                    d[3][0] = n[1]
                else:
                    bad(d)
            elif k == 'templ':
                if n and n[0] == 'template':
                    d[3]['ref'] = n[1]
                elif d[2] in s.enumwords:
                    pass
                else:
                    bad(d)
            elif k == 'newcomp':
                if n and n[0] == 'component':
                    d[3]['comp'] = n[1]
                else:
                    bad(d)
            elif k == 'anyport':
                if not any((d[2] in c['ports'] for c in s.comps)):
                    bad(d)
            elif k in ('port', 'stimer', 'var'):
                u = d[4]
                if u['comp'] is None:
                    bad(d)
                    continue
                c = s.comps[u['comp']]
                l = {'port': c['ports'], 'stimer': c['timers'], 'var': [x[0] for x in c['vars']]}[k]
                if d[2] not in l:
                    bad(d)
                    continue
                i = l.index(d[2])
                if k == 'var':
                    d[3]['into'] = ('own', i)
                else:
                    d[3]['what'] = i
            elif k == 'timer':
                c = d[4]
                cc = None
                if c and c[0] == 'comp':
                    cc = c[1]
                elif c and c[0] == 'unit' and (c[1]['comp'] is not None):
                    cc = s.comps[c[1]['comp']]
                if cc is None or d[2] not in cc['timers']:
                    bad(d)
                else:
                    d[3][1] = cc['timers'].index(d[2])
            elif k == 'exp':
                c = d[4]
                if c and c[0] == 'unit' and (c[1]['comp'] is not None):
                    vs = [x[0] for x in s.comps[c[1]['comp']]['vars']]
                    if d[2] in vs:
                        d[3][:] = ['own', vs.index(d[2])]
                        continue
                ew = s.mod.enumwords if s.valuemode else s.enumwords
                if d[2] in ew:
                    d[3][:] = ['const', ('w', d[2])]
                else:
                    bad(d)
            elif k in ('call', 'altstep', 'start'):
                if not n or n[0] != 'unit':
                    bad(d)
                    continue
                f = s.units[n[1]]
                if f['sort'] != ('altstep' if k == 'altstep' else 'function'):
                    bad(d)
                    continue
                if k != 'start' and (f['comp'] is None or f['comp'] != d[4]['comp']):
                    bad(d)
                    continue
                d[3]['f'] = n[1]
                if f['params'] != d[5]:
                    s.late.append((d[1], 6))
        if not s.valuemode:
            for i, t in enumerate(s.types):
                seen = set()
                j = i
                while True:
                    tt = s.types[j]['t']
                    if tt['k'] != 'name' or tt['ref'] is None:
                        break
                    j = tt['ref']
                    if j == i:
                        s.late.append((t['place'], 7))
                        break
                    if j in seen:
                        break
                    seen.add(j)
            INF = 10 ** 9

            def depth(t, stack):
                k = t['k']
                subs = []
                if k == 'word':
                    if t['ref'] is None:
                        return 1
                    return 1 + tdepth(t['ref'], stack)
                if k == 'fields':
                    subs = [x for _, x in t['f']]
                elif k == 'tag':
                    subs = [t['t']]
                elif k == 'row':
                    subs = t['ps']
                elif k in ('perm', 'not', 'both', 'subset', 'superset', 'some'):
                    subs = t['ts']
                return 1 + max([depth(x, stack) for x in subs] + [0])
            memo = {}

            def tdepth(i, stack):
                if i in memo:
                    return memo[i]
                if i in stack:
                    return INF
                r = depth(s.templs[i]['t'], stack | {i})
                if r < INF:
                    memo[i] = r
                return r
            for i, t in enumerate(s.templs):
                if tdepth(i, frozenset()) > 60:
                    s.late.append((t['place'], 7))
        if s.late:
            p, k = min(s.late)
            raise Fault(k, p)

class Mod:
    pass

def fitsT(m, t, v):
    k = t['k']
    if k == 'name':
        return fitsT(m, m.types[t['ref']]['t'], v)
    if k == 'int':
        return v[0] == 'n' and (t['ranges'] is None or any((a <= v[1] <= b for a, b in t['ranges'])))
    if k == 'bool':
        return v[0] == 'b'
    if k == 'text':
        return v[0] == 't' and t['span'][0] <= len(v[1]) <= t['span'][1]
    if k == 'enum':
        return v[0] == 'w' and v[1] in t['words']
    if k == 'record':
        if v[0] != 'r':
            return False
        d = dict(v[1])
        fs = {n: (tt, o) for n, tt, o in t['fields']}
        return all((n in fs and fitsT(m, fs[n][0], x) for n, x in d.items())) and all((o or n in d for n, (tt, o) in fs.items()))
    if k == 'choice':
        return v[0] == 'ch' and any((n == v[1] and fitsT(m, tt, v[2]) for n, tt, o in t['fields']))
    if k == 'list':
        return v[0] == 'l' and t['span'][0] <= len(v[1]) <= t['span'][1] and all((fitsT(m, t['of'], x) for x in v[1]))

def glob(p, s):
    from functools import lru_cache

    @lru_cache(None)
    def g(i, j):
        if i == len(p):
            return j == len(s)
        if p[i] == '*':
            return g(i + 1, j) or (j < len(s) and g(i, j + 1))
        if j == len(s):
            return False
        return (p[i] == '?' or p[i] == s[j]) and g(i + 1, j + 1)
    return g(0, 0)

def inj(adj, n, m):
    """can all n left be matched to distinct of m right, adj[i][j]"""
    match = [-1] * m

    def aug(i, seen):
        for j in range(m):
            if adj[i][j] and j not in seen:
                seen.add(j)
                if match[j] < 0 or aug(match[j], seen):
                    match[j] = i
                    return True
        return False
    return all((aug(i, set()) for i in range(n)))

class Matcher:

    def __init__(s, m, env):
        s.m = m
        s.env = env
        s.same = {}
        s.memo = {}

    def prepare(s, t):
        """work out = ( ) in order"""
        k = t['k']
        if k == 'same':
            s.same[id(t)] = ev(s.m, t['e'], s.env)
        elif k == 'word':
            if t['ref'] is not None:
                s.prepare_ref(t['ref'])
        elif k == 'fields':
            for _, x in t['f']:
                s.prepare(x)
        elif k == 'tag':
            s.prepare(t['t'])
        elif k == 'row':
            for x in t['ps']:
                s.prepare(x)
        elif k in ('perm', 'not', 'both', 'subset', 'superset', 'some'):
            for x in t['ts']:
                s.prepare(x)

    def prepare_ref(s, i):
        if ('ref', i) in s.same:
            return
        s.same['ref', i] = 1
        s.prepare(s.m.templs[i]['t'])

    def mt(s, t, v):
        key = (id(t), v)
        if key not in s.memo:
            s.memo[key] = s.mt0(t, v)
        return s.memo[key]

    def mt0(s, t, v):
        if t.get('ifp') and v == OM:
            return True
        if t.get('len'):
            if v[0] not in ('t', 'l') or not t['len'][0] <= len(v[1]) <= t['len'][1]:
                return False
        k = t['k']
        if k == 'any':
            return v != OM
        if k == 'star':
            return True
        if k == 'num':
            return v == t['v']
        if k == 'range':
            return v[0] == 'n' and t['a'] <= v[1] <= t['b']
        if k == 'omit':
            return v == OM
        if k == 'word':
            if t['ref'] is not None:
                return s.mt(s.m.templs[t['ref']]['t'], v)
            return v == ('w', t['w'])
        if k == 'fields':
            if v[0] != 'r':
                return False
            d = dict(v[1])
            return all((s.mt(x, d.get(n, OM)) for n, x in t['f'])) and all((n in [a for a, _ in t['f']] for n in d))
        if k == 'tag':
            return v[0] == 'ch' and v[1] == t['w'] and s.mt(t['t'], v[2])
        if k == 'row':
            return v[0] == 'l' and s.row(t['ps'], v[1])
        if k == 'not':
            return v != OM and (not any((s.mt(x, v) for x in t['ts'])))
        if k == 'both':
            return all((s.mt(x, v) for x in t['ts']))
        if k == 'some':
            return any((s.mt(x, v) for x in t['ts']))
        if k == 'pattern':
            return v[0] == 't' and glob(t['v'], v[1])
        if k == 'subset':
            return v[0] == 'l' and inj([[s.mt(x, e) for x in t['ts']] for e in v[1]], len(v[1]), len(t['ts']))
        if k == 'superset':
            return v[0] == 'l' and inj([[s.mt(x, e) for e in v[1]] for x in t['ts']], len(t['ts']), len(v[1]))
        if k == 'same':
            return v == s.same[id(t)]
        assert 0, k

    def plainstar(s, p):
        return p['k'] == 'star' and (not p['len']) and (not p['ifp'])

    def row(s, ps, es):
        if not ps:
            return not es
        p = ps[0]
        if p['k'] == 'perm':
            n = len(p['ts'])
            if len(es) < n:
                return False
            return inj([[s.mt(x, e) for e in es[:n]] for x in p['ts']], n, n) and s.row(ps[1:], es[n:])
        if s.plainstar(p):
            return any((s.row(ps[1:], es[j:]) for j in range(len(es) + 1)))
        return bool(es) and s.mt(p, es[0]) and s.row(ps[1:], es[1:])

    def why(s, t, v):
        out = []
        while True:
            while t['k'] == 'word' and t['ref'] is not None:
                t = s.m.templs[t['ref']]['t']
            k = t['k']
            if k == 'fields' and v[0] == 'r':
                d = dict(v[1])
                for n, x in t['f']:
                    if not s.mt(x, d.get(n, OM)):
                        out.append(1000 + s.m.words.index(n))
                        t = x
                        v = d.get(n, OM)
                        break
                else:
                    told = [n for n, _ in t['f']]
                    un = [n for n in d if n not in told]
                    if un:
                        out.append(1000 + min((s.m.words.index(n) for n in un)))
                    return out
            elif k == 'tag' and v[0] == 'ch' and (v[1] == t['w']):
                out.append(1000 + s.m.words.index(v[1]))
                t = t['t']
                v = v[2]
            elif k == 'row' and v[0] == 'l' and (len(t['ps']) == len(v[1])) and (not any((p['k'] == 'perm' or s.plainstar(p) for p in t['ps']))):
                for i, (p, e) in enumerate(zip(t['ps'], v[1])):
                    if not s.mt(p, e):
                        out.append(i)
                        t = p
                        v = e
                        break
                else:
                    return out
            else:
                return out

class Env:

    def __init__(s):
        s.me = s.now = s.verdict = None
        s.locals = None
        s.own = None
        s.ended = None
        s.active = None

def ev(m, e, env):
    k = e[0]
    if k == 'const':
        return e[1]
    if k == 'local':
        v = env.locals[e[1]]
        return OM if v is None else v
    if k == 'own':
        v = env.own[e[1]]
        return OM if v is None else v
    if k == 'me':
        return ('c', env.me)
    if k == 'now':
        return ('n', env.now)
    if k == 'verdict':
        return ('n', env.verdict)
    if k == 'active':
        return ('b', env.active(e[1]))
    if k == 'ended':
        v = ev(m, e[1], env)
        if v[0] != 'c':
            raise Err(1)
        return ('b', env.ended(v[1]))
    if k in ('and', 'or'):
        a = ev(m, e[1], env)
        if a[0] != 'b':
            raise Err(1)
        if a[1] == (k == 'or'):
            return a
        b = ev(m, e[2], env)
        if b[0] != 'b':
            raise Err(1)
        return b
    if k == 'un':
        a = ev(m, e[2], env)
        o = e[1]
        if o == '-':
            if a[0] != 'n':
                raise Err(1)
            return ('n', -a[1])
        if o == '!':
            if a[0] != 'b':
                raise Err(1)
            return ('b', not a[1])
        if a[0] not in ('t', 'l', 'r'):
            raise Err(1)
        return ('n', len(a[1]))
    if k == 'tag':
        a = ev(m, e[2], env)
        if a == OM:
            raise Err(1)
        return chk(('ch', e[1], a))
    if k == 'field':
        a = ev(m, e[1], env)
        if a[0] == 'r':
            return dict(a[1]).get(e[2], OM)
        if a[0] == 'ch':
            return a[2] if a[1] == e[2] else OM
        raise Err(1)
    if k == 'index':
        a = ev(m, e[1], env)
        b = ev(m, e[2], env)
        if a[0] != 'l' or b[0] != 'n':
            raise Err(1)
        if not 0 <= b[1] < len(a[1]):
            raise Err(2)
        return a[1][b[1]]
    if k == 'rec':
        vs = [(n, ev(m, x, env)) for n, x in e[1]]
        return chk(rec({n: v for n, v in vs if v != OM}))
    if k == 'list':
        vs = [ev(m, x, env) for x in e[1]]
        if OM in vs:
            raise Err(1)
        return chk(('l', tuple(vs)))
    if k == 'met':
        v = ev(m, e[1], env)
        M = Matcher(m, env)
        M.prepare(e[2])
        return ('b', M.mt(e[2], v))
    if k == 'bin':
        a = ev(m, e[2], env)
        b = ev(m, e[3], env)
        o = e[1]
        if o == '==':
            return ('b', a == b)
        if o == '!=':
            return ('b', a != b)
        if o == '&':
            if a[0] != b[0] or a[0] not in ('t', 'l'):
                raise Err(1)
            r = (a[0], a[1] + b[1])
            if len(r[1]) > (40 if a[0] == 't' else 16):
                raise Err(3)
            return chk(r)
        if a[0] != 'n' or b[0] != 'n':
            raise Err(1)
        x, y = (a[1], b[1])
        if o in ('<', '<=', '>', '>='):
            return ('b', {'<': x < y, '<=': x <= y, '>': x > y, '>=': x >= y}[o])
        if o == '+':
            r = x + y
        elif o == '-':
            r = x - y
        elif o == '*':
            r = x * y
        else:
            if y == 0:
                raise Err(3)
            q = abs(x) // abs(y)
            if (x < 0) != (y < 0):
                q = -q
            r = q if o == '/' else x - q * y
        if abs(r) > LIM:
            raise Err(3)
        return ('n', r)
    assert 0, e

class Comp:
    pass

class House:

    def __init__(s):
        s.text = b''
        s.mod = None
        s.kept = []
        s.bits_ = []
        s.run_ = None
        s.fault = (0, BAD)
        s.hand = b''
        s.whys = []
        s.moves = [[[set() for _ in range(8)] for _ in range(8)] for _ in range(4)]
        s.brk = []

    def feed(s, *a):
        if len(s.text) + 20 > 12000:
            return FULL
        for x in a:
            s.text += (x & 4294967295).to_bytes(4, 'big')
        return len(s.text)

    def end(s, n):
        if not 0 <= n <= 20 or len(s.text) < 20:
            return BAD
        s.text = s.text[:len(s.text) - 20 + n]
        return len(s.text)

    def module(s):
        s.kept = []
        s.run_ = None
        s.mod = None
        b = s.text
        s.text = b''
        try:
            toks = lex(b)
            p = P(toks)
            p.module()
        except Fault as f:
            s.fault = (f.k, f.p)
            return f.k
        m = Mod()
        m.types = p.types
        m.templs = p.templs
        m.comps = p.comps
        m.units = p.units
        m.stmts = p.stmts
        m.nodes = p.nodes
        m.names = p.names
        m.enumwords = p.enumwords
        m.words = []
        for t in toks:
            if t[0] == 'WORD' and t[1] not in m.words:
                m.words.append(t[1])
        s.mod = m
        s.fault = (0, BAD)
        s.light()
        return 0

    def count(s, w):
        m = s.mod
        if w == 0:
            return s.fault[0]
        if w == 1:
            return s.fault[1]
        if w == 2:
            return len(s.text)
        if w == 9:
            return len(s.kept)
        if w == 10:
            return len(s.bits_)
        if 3 <= w <= 8:
            if not m:
                return 0
            return [len(m.types), len(m.templs), len(m.comps), len(m.units), len(m.stmts), m.nodes][w - 3]
        return BAD

    def keep(s, v):
        if len(s.kept) >= 40:
            return FULL
        s.kept.append(v)
        return len(s.kept) - 1

    def value(s):
        if not s.mod:
            return BAD
        if len(s.kept) >= 40:
            return FULL
        b = s.text
        s.text = b''
        try:
            p = P(lex(b), s.mod, True)
            p.bare = True
            e = p.exp(0)
            if p.k != 'END':
                p.fail(2)
            p.settle()
        except Fault as f:
            s.fault = (f.k, f.p)
            return -10 - f.k
        s.fault = (0, BAD)
        try:
            v = ev(s.mod, e, Env())
        except Err as x:
            return -20 - x.c
        return s.keep(v)

    def named(s):
        if not s.mod:
            return BAD
        t = lex(s.text)
        s.text = b''
        if len(t) != 2 or t[0][0] != 'WORD' or t[1][0] != 'END':
            return NONE
        n = s.mod.names.get(t[0][1])
        if not n:
            return NONE
        return {'type': 0, 'template': 100, 'component': 200, 'unit': 300}[n[0]] + n[1]

    def drop(s):
        if not s.kept:
            return BAD
        s.kept.pop()
        return len(s.kept)

    def K(s, v):
        return 0 <= v < len(s.kept)

    def T(s, t):
        return s.mod is not None and 0 <= t < len(s.mod.types)

    def about(s, v, w):
        if not s.K(v) or not 0 <= w <= 3:
            return BAD
        x = s.kept[v]
        if w == 0:
            return ['n', 'b', 't', 'w', 'o', 'c', 'r', 'ch', 'l'].index(x[0])
        if w == 1:
            return weight(x)
        if w == 2:
            return len(x[1]) if x[0] in ('t', 'l', 'r') else 0
        if x[0] in ('n', 'c'):
            return max(-2 ** 31, min(2 ** 31 - 1, x[1]))
        if x[0] == 'b':
            return int(x[1])
        return 0

    def alike(s, a, b):
        if not s.K(a) or not s.K(b):
            return BAD
        return int(s.kept[a] == s.kept[b])

    def fits(s, v, t):
        if not s.K(v) or not s.T(t):
            return BAD
        return int(fitsT(s.mod, s.mod.types[t]['t'], s.kept[v]))

    def allnodes(s):
        out = []

        def walk(t):
            out.append(t)
            if t['k'] in ('record', 'choice'):
                for f in t['fields']:
                    walk(f[1])
            if t['k'] == 'list':
                walk(t['of'])
        for t in s.mod.types:
            walk(t['t'])
        return out

    def res(s, t):
        while t['k'] == 'name':
            t = s.mod.types[t['ref']]['t']
        return t

    def light(s):
        INF = float('inf')
        ns = s.allnodes()
        W = {id(t): INF for t in ns}
        ch = True
        while ch:
            ch = False
            for t in ns:
                k = t['k']
                if k in ('int', 'bool', 'enum'):
                    w = 1
                elif k == 'text':
                    w = 1 + (t['span'][0] + 7) // 8
                elif k == 'name':
                    w = W[id(s.res(t))]
                elif k == 'list':
                    w = 1 if t['span'][0] == 0 else 1 + t['span'][0] * W[id(t['of'])]
                elif k == 'record':
                    w = 1 + sum((1 + W[id(f[1])] for f in t['fields'] if not f[2]))
                else:
                    w = 1 + min((W[id(f[1])] for f in t['fields']))
                if w < W[id(t)]:
                    W[id(t)] = w
                    ch = True
        s.W = W
        s.mod.manymemo = {}

    def empty(s, t):
        return s.W[id(t)] == float('inf')

    def lightest(s, t):
        if not s.T(t):
            return BAD
        w = s.W[id(s.mod.types[t]['t'])]
        return w if w <= 120 else NONE

    def many(s, t, w):
        if not s.T(t) or not 1 <= w <= 20:
            return BAD
        memo = s.mod.manymemo

        def cnt(t, w):
            t = s.res(t)
            key = (id(t), w)
            if key in memo:
                return memo[key]
            k = t['k']
            r = 0
            if w < 1:
                r = 0
            elif k == 'int':
                if w == 1:
                    if t['ranges'] is None:
                        r = 2 * LIM + 1
                    else:
                        pts = []
                        for a, b in sorted(t['ranges']):
                            if pts and a <= pts[-1][1] + 1:
                                pts[-1][1] = max(pts[-1][1], b)
                            else:
                                pts.append([a, b])
                        r = sum((b - a + 1 for a, b in pts))
            elif k == 'bool':
                r = 2 if w == 1 else 0
            elif k == 'enum':
                r = len(t['words']) if w == 1 else 0
            elif k == 'text':
                r = sum((94 ** n for n in range(t['span'][0], t['span'][1] + 1) if 1 + (n + 7) // 8 == w))
            elif k == 'choice':
                r = sum((cnt(f[1], w - 1) for f in t['fields']))
            elif k == 'record':
                r = recs(t['fields'], 0, w - 1, {})
            else:
                r = sum((lists(t['of'], n, w - 1, {}) for n in range(t['span'][0], t['span'][1] + 1)))
            memo[key] = r
            return r

        def recs(fs, i, w, mm):
            if w < 0:
                return 0
            if i == len(fs):
                return int(w == 0)
            if (i, w) in mm:
                return mm[i, w]
            r = recs(fs, i + 1, w, mm) if fs[i][2] else 0
            for x in range(1, w):
                c = cnt(fs[i][1], x)
                if c:
                    r += c * recs(fs, i + 1, w - 1 - x, mm)
            mm[i, w] = r
            return r

        def lists(t, n, w, mm):
            if n == 0:
                return int(w == 0)
            if (n, w) in mm:
                return mm[n, w]
            r = 0
            for x in range(1, w + 1):
                c = cnt(t, x)
                if c:
                    r += c * lists(t, n - 1, w - x, mm)
            mm[n, w] = r
            return r
        return min(4 * 10 ** 18, cnt(s.mod.types[t]['t'], w))

    def within(s, a, b):
        if not s.T(a) or not s.T(b):
            return BAD
        seen = set()

        def inc(a, b):
            a = s.res(a)
            b = s.res(b)
            if (id(a), id(b)) in seen:
                return True
            seen.add((id(a), id(b)))
            if s.empty(a):
                return True
            if a['k'] != b['k']:
                return False
            k = a['k']
            if k == 'int':
                ra = a['ranges'] or [(-LIM, LIM)]
                rb = b['ranges'] or [(-LIM, LIM)]
                pts = []
                for x, y in sorted(rb):
                    if pts and x <= pts[-1][1] + 1:
                        pts[-1][1] = max(pts[-1][1], y)
                    else:
                        pts.append([x, y])
                return all((any((p <= x and y <= q for p, q in pts)) for x, y in ra))
            if k == 'bool':
                return True
            if k == 'text':
                return b['span'][0] <= a['span'][0] and a['span'][1] <= b['span'][1]
            if k == 'enum':
                return all((w in b['words'] for w in a['words']))
            if k == 'list':
                if s.empty(a['of']):
                    lo = hi = 0
                else:
                    lo, hi = a['span']
                if s.empty(b['of']):
                    lb, hb = (0, 0) if b['span'][0] == 0 else (1, 0)
                else:
                    lb, hb = b['span']
                if not (lb <= lo and hi <= hb):
                    return False
                return hi == 0 or inc(a['of'], b['of'])
            fb = {f[0]: f for f in b['fields']}
            if k == 'choice':
                return all((s.empty(f[1]) or (f[0] in fb and inc(f[1], fb[f[0]][1])) for f in a['fields']))
            fa = {f[0]: f for f in a['fields']}
            for n, f in fb.items():
                if not f[2] and (n not in fa or fa[n][2]):
                    return False
            return all((s.empty(f[1]) or (f[0] in fb and inc(f[1], fb[f[0]][1])) for f in a['fields']))
        return int(inc(s.mod.types[a]['t'], s.mod.types[b]['t']))

    def txt(s, v):
        k = v[0]
        if k == 'n':
            return str(v[1])
        if k == 'b':
            return 'true' if v[1] else 'false'
        if k == 't':
            return '"' + v[1] + '"'
        if k == 'w':
            return v[1]
        if k == 'o':
            return 'omit'
        if k == 'c':
            return '#%d' % v[1]
        if k == 'r':
            return '{' + ','.join((n + ':=' + s.txt(x) for n, x in sorted(v[1], key=lambda q: s.mod.words.index(q[0])))) + '}'
        if k == 'ch':
            return '@' + v[1] + ' ' + s.txt(v[2])
        return '[' + ','.join((s.txt(x) for x in v[1])) + ']'

    def tell(s, v):
        if not s.K(v):
            return BAD
        s.hand = s.txt(s.kept[v]).encode()
        return len(s.hand)

    def letter(s, i):
        return s.hand[i] if 0 <= i < len(s.hand) else NONE

    def met(s, t, v):
        if not s.mod or not 0 <= t < len(s.mod.templs) or (not s.K(v)):
            return BAD
        M = Matcher(s.mod, Env())
        tt = s.mod.templs[t]['t']
        try:
            M.prepare(tt)
        except Err as e:
            return -20 - e.c
        if M.mt(tt, s.kept[v]):
            return 1
        s.whys = M.why(tt, s.kept[v])
        return 0

    def why(s, i):
        return s.whys[i] if 0 <= i < len(s.whys) else NONE

    def enc(s, v, t):
        t = s.res(t)
        k = t['k']

        def num(n, top):
            w = top.bit_length()
            return [n >> i & 1 for i in range(w - 1, -1, -1)]
        if k == 'int':
            if t['ranges']:
                a = min((x for x, _ in t['ranges']))
                b = max((y for _, y in t['ranges']))
                return num(v[1] - a, b - a)
            n = 1
            while not -(1 << 8 * n - 1) <= v[1] < 1 << 8 * n - 1:
                n += 1
            return [n >> i & 1 for i in range(7, -1, -1)] + [v[1] >> i & 1 for i in range(8 * n - 1, -1, -1)]
        if k == 'bool':
            return [int(v[1])]
        if k == 'enum':
            return num(t['words'].index(v[1]), len(t['words']) - 1)
        if k == 'text':
            r = num(len(v[1]) - t['span'][0], t['span'][1] - t['span'][0])
            for c in v[1]:
                r += [ord(c) - 32 >> i & 1 for i in range(6, -1, -1)]
            return r
        if k == 'list':
            r = num(len(v[1]) - t['span'][0], t['span'][1] - t['span'][0])
            for x in v[1]:
                r += s.enc(x, t['of'])
            return r
        if k == 'choice':
            i = [f[0] for f in t['fields']].index(v[1])
            return num(i, len(t['fields']) - 1) + s.enc(v[2], t['fields'][i][1])
        d = dict(v[1])
        r = [int(f[0] in d) for f in t['fields'] if f[2]]
        for f in t['fields']:
            if f[0] in d:
                r += s.enc(d[f[0]], f[1])
        return r

    def encode(s, v, t):
        if not s.K(v) or not s.T(t):
            return BAD
        tt = s.mod.types[t]['t']
        if not fitsT(s.mod, tt, s.kept[v]):
            return NONE
        s.bits_ = s.enc(s.kept[v], tt)
        return len(s.bits_)

    def bit(s, i):
        return s.bits_[i] if 0 <= i < len(s.bits_) else NONE

    def bits(s, b, n):
        if not 0 <= n <= 32:
            return BAD
        if len(s.bits_) + n > 8000:
            return FULL
        for i in range(n - 1, -1, -1):
            s.bits_.append(b >> i & 1)
        return len(s.bits_)

    def noBits(s):
        n = len(s.bits_)
        s.bits_ = []
        return n

    def decode(s, t):
        if not s.T(t):
            return BAD
        if len(s.kept) >= 40:
            return FULL

        class Wrong(Exception):
            pass
        st = {'p': 0, 'w': 0}
        B = s.bits_

        def wrong(p):
            e = Wrong()
            e.p = p
            raise e

        def take(n):
            if st['p'] + n > len(B):
                wrong(len(B))
            r = 0
            for i in range(n):
                r = r * 2 + B[st['p'] + i]
            st['p'] += n
            return r

        def upto(top):
            p = st['p']
            n = take(top.bit_length())
            if n > top:
                wrong(p)
            return n

        def part(t, field):
            t = s.res(t)
            p = st['p']
            if s.empty(t):
                wrong(p)
            st['w'] += 2 if field else 1
            if st['w'] > 120:
                wrong(p)
            k = t['k']
            if k == 'int':
                if t['ranges']:
                    a = min((x for x, _ in t['ranges']))
                    b = max((y for _, y in t['ranges']))
                    n = a + take((b - a).bit_length())
                    if not any((x <= n <= y for x, y in t['ranges'])):
                        wrong(p)
                    return ('n', n)
                c = take(8)
                if not 1 <= c <= 7:
                    wrong(p)
                n = take(8 * c)
                if n >> 8 * c - 1:
                    n -= 1 << 8 * c
                if c > 1 and -(1 << 8 * (c - 1) - 1) <= n < 1 << 8 * (c - 1) - 1:
                    wrong(p)
                if abs(n) > LIM:
                    wrong(p)
                return ('n', n)
            if k == 'bool':
                return ('b', take(1) == 1)
            if k == 'enum':
                return ('w', t['words'][upto(len(t['words']) - 1)])
            if k == 'text':
                n = t['span'][0] + upto(t['span'][1] - t['span'][0])
                st['w'] += (n + 7) // 8
                if st['w'] > 120:
                    wrong(p)
                r = ''
                for i in range(n):
                    q = st['p']
                    c = take(7) + 32
                    if c > 126 or c == 34:
                        wrong(q)
                    r += chr(c)
                return ('t', r)
            if k == 'list':
                n = t['span'][0] + upto(t['span'][1] - t['span'][0])
                return ('l', tuple((part(t['of'], False) for _ in range(n))))
            if k == 'choice':
                f = t['fields'][upto(len(t['fields']) - 1)]
                return ('ch', f[0], part(f[1], False))
            there = [f for f in t['fields'] if not f[2] or take(1)]
            return rec({f[0]: part(f[1], True) for f in there})
        try:
            v = part(s.mod.types[t]['t'], False)
            if st['p'] < len(B):
                wrong(st['p'])
        except Wrong as e:
            return -10 - e.p
        return s.keep(v)

    def begin(s, f):
        m = s.mod
        if not m or not 0 <= f < len(m.units) or m.units[f]['sort'] != 'case':
            return BAD
        R = Comp()
        s.run_ = R
        R.comps = []
        R.time = 0
        R.log = []
        R.sent = 0
        c = s.newcomp(m.units[f]['comp'])
        R.comps.append(c)
        s.ev_(8, 0, c.kind)
        try:
            s.initvars(c)
        except Err as e:
            s.die(c, e.c)
            return 0
        s.launch(c, f, [])
        return 1

    def newcomp(s, k):
        c = Comp()
        c.no = len(s.run_.comps)
        c.kind = k
        T = s.mod.comps[k]
        c.status = 0
        c.jud = 0
        c.vars = [None] * len(T['vars'])
        c.q = [[] for _ in T['ports']]
        c.link = [None] * len(T['ports'])
        c.timers = [None] * len(T['timers'])
        c.frames = []
        c.usual = []
        c.steps = 0
        c.err = 0
        return c

    def env(s, c, loc=None):
        e = Env()
        e.me = c.no
        e.now = s.run_.time
        e.verdict = c.jud
        e.own = c.vars
        e.locals = loc if loc is not None else c.frames[-1].loc if c.frames else None
        e.ended = lambda i: i < len(s.run_.comps) and s.run_.comps[i].status == 2
        e.active = lambda i: c.timers[i] is not None and c.timers[i] > s.run_.time
        return e

    def initvars(s, c):
        T = s.mod.comps[c.kind]
        for i, (n, ty, e) in enumerate(T['vars']):
            v = ev(s.mod, e, s.env(c))
            if ty[0] is not None and (not fitsT(s.mod, s.mod.types[ty[0]]['t'], v)):
                raise Err(4)
            c.vars[i] = v

    def ev_(s, sort, c, what, v=None):
        s.run_.log.append((sort, c, what, v))

    def launch(s, c, f, args):
        c.status = 1
        s.ev_(9, c.no, 0)
        s.push(c, f, args, None)
        s.normal(c)

    def push(s, c, f, args, into):
        F = Comp()
        F.f = f
        F.loc = list(args) + [None] * (8 - len(args))
        F.into = into
        F.k = [(s.mod.units[f]['body'], 0, None)]
        F.alt = False
        c.frames.append(F)
        return F

    def over(s, c):
        c.status = 2
        c.frames = []
        c.usual = []
        c.timers = [None] * len(c.timers)
        s.ev_(6, c.no, 0)

    def die(s, c, code):
        c.err = code
        s.ev_(7, c.no, code)
        s.grow(c, 4)
        s.over(c)

    def grow(s, c, j):
        if j > c.jud:
            c.jud = j
            s.ev_(4, c.no, j)

    def normal(s, c):
        """move past ends"""
        while c.status == 1:
            F = c.frames[-1]
            while F.k:
                b, i, owner = F.k[-1]
                if i < len(b):
                    break
                F.k.pop()
            if F.k:
                return
            s.ret(c, OM)

    def ret(s, c, v):
        F = c.frames[-1]
        if len(c.frames) == 1:
            s.over(c)
            return
        c.frames.pop()
        if F.alt or F.into is None:
            return
        s.store(c, F.into, v)

    def ctype(s, c, into, f):
        if into[0] == 'local':
            return s.mod.units[f]['types'][into[1]][0]
        return s.mod.comps[c.kind]['vars'][into[1]][1][0]

    def fitcheck(s, c, into, f, v):
        t = s.ctype(c, into, f)
        if t is not None and (not fitsT(s.mod, s.mod.types[t]['t'], v)):
            raise Err(4)

    def store(s, c, into, v):
        s.fitcheck(c, into, c.frames[-1].f, v)
        if into[0] == 'local':
            c.frames[-1].loc[into[1]] = v
        else:
            c.vars[into[1]] = v

    def next(s, c):
        F = c.frames[-1]
        b, i, _ = F.k[-1]
        return b[i]

    def C(s, c):
        return s.run_ is not None and 0 <= c < len(s.run_.comps)

    def run(s, c, n):
        if not s.C(c) or not 0 <= n <= 10000:
            return BAD
        c = s.run_.comps[c]
        d = 0
        while d < n and c.status == 1:
            if not s.step(c):
                break
            d += 1
        return d

    def step(s, c):
        st = s.next(c)
        try:
            if st['k'] in ('alt', 'event'):
                r = s.look(c, st)
                if r is None:
                    return False
                s.enter(c, st, r)
            else:
                s.do(c, st)
        except Err as e:
            c.steps += 1
            s.die(c, e.c)
            return True
        c.steps += 1
        try:
            if c.status == 1:
                s.normal(c)
        except Err as e:
            s.die(c, e.c)
        return True

    def moveon(s, c):
        F = c.frames[-1]
        b, i, o = F.k[-1]
        F.k[-1] = (b, i + 1, o)

    def look(s, c, st):
        loc = c.frames[-1].loc
        brs = st['alts'] if st['k'] == 'alt' else [st]
        r = s.looks(c, brs, loc, None, 0)
        if r:
            return r
        for f, args in c.usual:
            l = list(args) + [None] * (8 - len(args))
            r = s.looks(c, s.mod.units[f]['body'], l, f, 1)
            if r:
                return r
        return None

    def looks(s, c, brs, loc, f, deep):
        for b in brs:
            env = s.env(c, loc)
            if b['guard'] is not None:
                g = ev(s.mod, b['guard'], env)
                if g[0] != 'b':
                    raise Err(1)
                if not g[1]:
                    continue
            e = b['ev']
            if e == 'else':
                return (b, loc, f)
            if e == 'step':
                args = [ev(s.mod, a, env) for a in b['args']]
                if deep >= 4:
                    raise Err(7)
                r = s.looks(c, s.mod.units[b['f']]['body'], args + [None] * (8 - len(args)), b['f'], deep + 1)
                if r:
                    return r
                continue
            if e == 'timeout':
                t = c.timers[b['what']]
                if t is not None and t <= s.run_.time:
                    return (b, loc, f)
            elif e == 'done':
                v = ev(s.mod, b['e'], env)
                if v[0] != 'c':
                    raise Err(1)
                if s.run_.comps[v[1]].status == 2:
                    return (b, loc, f)
            else:
                q = c.q[b['what']]
                if not q:
                    continue
                if b['from'] is not None:
                    v = ev(s.mod, b['from'], env)
                    if v[0] != 'c':
                        raise Err(1)
                    if q[0][1] != v[1]:
                        continue
                M = Matcher(s.mod, env)
                M.prepare(b['templ'])
                if M.mt(b['templ'], q[0][0]):
                    return (b, loc, f)
        return None

    def enter(s, c, st, r):
        b, loc, f = r
        if f is not None and len(c.frames) >= 8:
            raise Err(7)
        if b['ev'] == 'receive' and b['into'] is not None:
            s.fitcheck(c, b['into'], f if f is not None else c.frames[-1].f, c.q[b['what']][0][0])
        s.moveon(c)
        if f is not None:
            F = s.push(c, f, [], None)
            F.loc = list(loc)
            F.alt = True
            F.k = [(b['block'], 0, None)]
        else:
            c.frames[-1].k.append((b['block'], 0, None))
        if b['ev'] == 'receive':
            v, fr = c.q[b['what']].pop(0)
            s.ev_(2, c.no, b['what'], v)
            if b['into'] is not None:
                s.store(c, b['into'], v)
        elif b['ev'] == 'timeout':
            c.timers[b['what']] = None
            s.ev_(3, c.no, b['what'])

    def do(s, c, st):
        k = st['k']
        m = s.mod
        env = s.env(c)
        E = lambda e: ev(m, e, env)
        if k == 'var':
            v = E(st['e'])
            s.store(c, st['into'], v)
            s.moveon(c)
        elif k == 'assign':
            idx = []
            for p in st['path']:
                if p[0] == 'i':
                    n = E(p[1])
                    if n[0] != 'n':
                        raise Err(1)
                    idx.append(n[1])
                else:
                    idx.append(None)
            v = E(st['e'])
            into = st['into']
            old = c.frames[-1].loc[into[1]] if into[0] == 'local' else c.vars[into[1]]
            if old is None:
                old = OM
            if st['path']:
                v = s.put(old, [(p[0], p[1] if p[0] == 'f' else i) for p, i in zip(st['path'], idx)], v)
                chk(v)
            s.store(c, into, v)
            s.moveon(c)
        elif k in ('if', 'while'):
            v = E(st['e'])
            if v[0] != 'b':
                raise Err(1)
            F = c.frames[-1]
            if k == 'if':
                s.moveon(c)
                F.k.append((st['then'] if v[1] else st['else'], 0, None))
            elif v[1]:
                F.k.append((st['then'], 0, None))
            else:
                s.moveon(c)
        elif k == 'return':
            v = E(st['e']) if st['e'] is not None else OM
            s.ret(c, v)
        elif k == 'call':
            a = [E(x) for x in st['args']]
            if len(c.frames) >= 8:
                raise Err(7)
            s.moveon(c)
            s.push(c, st['f'], a, st['into'])
        elif k == 'set':
            s.grow(c, st['to'])
            s.moveon(c)
        elif k == 'log':
            v = E(st['e'])
            if v == OM:
                raise Err(1)
            s.ev_(5, c.no, 0, v)
            s.moveon(c)
        elif k == 'send':
            v = E(st['e'])
            if v == OM:
                raise Err(1)
            l = c.link[st['what']]
            if l is None:
                s.ev_(0, c.no, 0, v)
                s.run_.sent += 1
            else:
                s.ev_(1, c.no, st['what'], v)
                q = s.run_.comps[l[0]].q[l[1]]
                if len(q) < 8:
                    q.append((v, c.no))
            s.moveon(c)
        elif k == 'begin':
            v = E(st['e'])
            if v[0] != 'n':
                raise Err(1)
            if not 1 <= v[1] <= 10 ** 9:
                raise Err(3)
            c.timers[st['what']] = s.run_.time + v[1]
            s.moveon(c)
        elif k == 'halt':
            c.timers[st['what']] = None
            s.moveon(c)
        elif k == 'create':
            if len(s.run_.comps) >= 8:
                raise Err(7)
            n = s.newcomp(st['comp'])
            s.initvars(n)
            s.store(c, st['into'], ('c', n.no))
            s.run_.comps.append(n)
            s.ev_(8, n.no, n.kind)
            s.moveon(c)
        elif k == 'start':
            v = E(st['e'])
            a = [E(x) for x in st['args']]
            if v[0] != 'c':
                raise Err(1)
            o = s.run_.comps[v[1]]
            if o.status != 0 or m.units[st['f']]['comp'] != o.kind:
                raise Err(6)
            s.launch(o, st['f'], a)
            s.moveon(c)
        elif k == 'connect':
            a = E(st['e'])
            b = E(st['e2'])
            if a[0] != 'c' or b[0] != 'c':
                raise Err(1)
            A = s.run_.comps[a[1]]
            B = s.run_.comps[b[1]]
            pa = m.comps[A.kind]['ports']
            pb = m.comps[B.kind]['ports']
            if st['p1'] not in pa or st['p2'] not in pb:
                raise Err(5)
            i = pa.index(st['p1'])
            j = pb.index(st['p2'])
            if A.link[i] is not None or B.link[j] is not None:
                raise Err(5)
            A.link[i] = (B.no, j)
            B.link[j] = (A.no, i)
            s.moveon(c)
        elif k == 'stop':
            if st['e'] is None:
                s.over(c)
                return
            v = E(st['e'])
            if v[0] != 'c':
                raise Err(1)
            o = s.run_.comps[v[1]]
            if o is not c:
                s.moveon(c)
            if o.status != 2:
                s.over(o)
        elif k == 'usual':
            a = [E(x) for x in st['args']]
            if len(c.usual) >= 4:
                raise Err(7)
            c.usual.insert(0, (st['f'], a))
            s.moveon(c)
        elif k == 'unusual':
            c.usual = []
            s.moveon(c)
        else:
            assert 0, k

    def put(s, old, path, v):
        kind, x = path[0]
        last = len(path) == 1
        if kind == 'f':
            if old[0] == 'r':
                d = dict(old[1])
                if last:
                    n = v
                else:
                    n = s.put(d.get(x, OM), path[1:], v)
                if n == OM:
                    d.pop(x, None)
                else:
                    d[x] = n
                return rec(d)
            if old[0] == 'ch':
                if last:
                    if v == OM:
                        raise Err(1)
                    return ('ch', x, v)
                return ('ch', x, s.put(old[2] if old[1] == x else OM, path[1:], v))
            raise Err(1)
        if old[0] != 'l':
            raise Err(1)
        l = list(old[1])
        if last:
            if v == OM:
                raise Err(1)
            if not 0 <= x <= len(l):
                raise Err(2)
            if x == len(l):
                if x == 16:
                    raise Err(3)
                l.append(v)
            else:
                l[x] = v
        else:
            if not 0 <= x < len(l):
                raise Err(2)
            l[x] = s.put(l[x], path[1:], v)
        return ('l', tuple(l))

    def clock(s, n):
        if s.run_ is None or not 0 <= n <= 10 ** 9:
            return BAD
        if s.run_.time + n > 10 ** 12:
            return 0
        s.run_.time += n
        return 1

    def hascomp(s, v):
        k = v[0]
        if k == 'c':
            return True
        if k == 'r':
            return any((s.hascomp(x) for _, x in v[1]))
        if k == 'ch':
            return s.hascomp(v[2])
        if k == 'l':
            return any((s.hascomp(x) for x in v[1]))
        return False

    def PT(s, c, p):
        return s.C(c) and 0 <= p < len(s.run_.comps[c].q)

    def give(s, c, p, v):
        if not s.PT(c, p) or not s.K(v):
            return BAD
        x = s.kept[v]
        if x == OM or s.hascomp(x):
            return BAD
        q = s.run_.comps[c].q[p]
        if len(q) >= 8:
            return 0
        q.append((x, None))
        return 1

    def state(s, c, w):
        if not s.C(c) or not 0 <= w <= 7:
            return BAD
        c = s.run_.comps[c]
        return [c.status, c.jud, c.kind, len(c.frames), s.next(c)['n'] if c.frames else NONE, len(c.usual), c.steps, c.err][w]

    def all(s, w):
        R = s.run_
        if R is None or not 0 <= w <= 5:
            return BAD
        if w == 0:
            return len(R.comps)
        if w == 1:
            return R.time
        if w == 2:
            return max((c.jud for c in R.comps))
        if w == 3:
            return len(R.log)
        if w == 4:
            return R.sent
        for c in R.comps:
            if c.status == 1:
                st = s.next(c)
                if st['k'] not in ('alt', 'event'):
                    return 0
                try:
                    if s.look(c, st):
                        return 0
                except Err:
                    return 0
        return 1

    def queue(s, c, p):
        return len(s.run_.comps[c].q[p]) if s.PT(c, p) else BAD

    def queued(s, c, p, i):
        if not s.PT(c, p):
            return BAD
        q = s.run_.comps[c].q[p]
        if not 0 <= i < len(q):
            return NONE
        return s.keep(q[i][0])

    def timer(s, c, i):
        if not s.C(c):
            return BAD
        t = s.run_.comps[c].timers
        if not 0 <= i < len(t):
            return BAD
        if t[i] is None:
            return NONE
        return max(0, t[i] - s.run_.time)

    def variable(s, c, p):
        if not s.C(c):
            return BAD
        c = s.run_.comps[c]
        if 0 <= p <= 7:
            v = c.vars[p] if p < len(c.vars) else None
        elif 100 <= p <= 107 and c.frames:
            v = c.frames[-1].loc[p - 100]
        else:
            v = None
        return NONE if v is None else s.keep(v)

    def event(s, k, w):
        if s.run_ is None or not 0 <= k < min(300, len(s.run_.log)) or (not 0 <= w <= 2):
            return BAD
        return s.run_.log[k][w]

    def eventValue(s, k):
        if s.run_ is None or not 0 <= k < min(300, len(s.run_.log)):
            return NONE
        v = s.run_.log[k][3]
        return NONE if v is None else s.keep(v)

    def move(s, m, f, a, t, i):
        if not 0 <= m < 4 or not 0 <= f < 8 or (not 0 <= a < 8) or (not 0 <= t < 8):
            return BAD
        x = s.moves[m][f][a]
        was = t in x
        if i:
            x.add(t)
        else:
            x.discard(t)
        return int(was)

    def nx(s, m, S, a):
        r = set()
        for x in S:
            if a == 8:
                if not any((s.moves[m][x][b] for b in range(4, 8))):
                    r.add(x)
            else:
                r |= s.moves[m][x][a]
        return frozenset(r)

    def conforms(s, m, n):
        if not 0 <= m < 4 or not 0 <= n < 4:
            return BAD
        lay = [((), frozenset([0]), frozenset([0]))]
        seen = set()
        while lay:
            nxt = []
            best = None
            for row, A, B in lay:
                for a in range(4, 9):
                    if s.nx(m, A, a) and (not s.nx(n, B, a)):
                        r = row + (a,)
                        if best is None or r < best:
                            best = r
            if best is not None:
                s.brk = list(best)
                return 0
            for row, A, B in sorted(lay, key=lambda q: q[0]):
                for a in range(9):
                    C = s.nx(m, A, a)
                    D = s.nx(n, B, a)
                    if D and C and ((C, D) not in seen):
                        seen.add((C, D))
                        nxt.append((row + (a,), C, D))
            lay = nxt
        s.brk = []
        return 1

    def row(s, i):
        if i == -1:
            return len(s.brk)
        return s.brk[i] if 0 <= i < len(s.brk) else NONE

    def can(s, m, k, a):
        if not 0 <= m < 4 or not 0 <= k <= len(s.brk) or (not 0 <= a <= 8):
            return BAD
        S = frozenset([0])
        for x in s.brk[:k]:
            S = s.nx(m, S, x)
        return int(bool(s.nx(m, S, a)))
