"""Modules, faults, values, codes, systems and runs by chance: python3 fuzz.py FIRST_SEED HOW_MANY."""
import random
import sys
from compare import report
from house import *
from texts import *

def one(seed):
    r = random.Random(seed)
    g = G(r)
    h = House()
    calls = []

    def c(*a):
        e = getattr(h, a[0])(*a[1:])
        calls.append((a, e))
        return e

    def text(t):
        for f in feeds(t):
            c(*f)

    def ri(lo, hi):
        return r.randrange(lo, hi) if r.random() < 0.97 else r.choice([-1, -2, hi, hi + 1, 2 ** 31 - 1, -2 ** 31, 100])
    mode = r.choice(['runs', 'runs', 'runs', 'vals', 'vals', 'faults'])
    t = g.module(runs=mode != 'vals' or r.random() < 0.2)
    if mode == 'faults' or r.random() < 0.1:
        t = g.mutate(t)
    if r.random() < 0.02:
        t = t[:r.randrange(len(t) + 1)]
    text(t[:11900])
    ok = c('module') == 0
    c('count', 0)
    c('count', 1)
    for i in range(2, 9):
        c('count', i)
    if not ok:
        text(g.module(runs=True))
        c('module')
        c('count', 0)
        c('count', 1)
    m = h.mod
    if not m:
        return calls
    nT = len(m.types)
    nM = len(m.templs)
    nU = len(m.units)

    def val(t=None, depth=0):
        """random value text, perhaps fitting type"""
        t = h.res(t)
        if h.empty(t) or depth > 8 or r.random() < 0.04:
            g.ctx = 'value'
            return g.exp(3)
        k = t['k']
        if k == 'int':
            if t['ranges']:
                a, b = r.choice(t['ranges'])
                return str(r.choice([a, b, r.randrange(a, b + 1)]))
            return str(g.num() * r.choice([1, -1]))
        if k == 'bool':
            return r.choice(['true', 'false'])
        if k == 'text':
            n = r.randrange(t['span'][0], t['span'][1] + 1)
            return '"' + ''.join((r.choice('abc*?x') for _ in range(n))) + '"'
        if k == 'enum':
            return r.choice(t['words'])
        if k == 'record':
            return '{' + ','.join((f[0] + ':=' + val(f[1], depth + 1) for f in t['fields'] if not f[2] or (r.random() < 0.5 and (not h.empty(f[1]))))) + '}'
        if k == 'choice':
            f = r.choice([f for f in t['fields'] if not h.empty(f[1])])
            return '@' + f[0] + ' ' + val(f[1], depth + 1)
        lo, hi = t['span']
        if h.empty(t['of']):
            return '[]'
        n = r.randrange(lo, min(hi, lo + 3) + 1)
        return '[' + ','.join((val(t['of'], depth + 1) for _ in range(n))) + ']'

    def value():
        g.ctx = 'value'
        q = r.random()
        if nT and q < 0.6:
            v = val(r.choice(m.types)['t'])
        else:
            v = g.exp(r.choice([0, 1, 2, 2]))
        if r.random() < 0.08:
            v = g.mutate(v)
        text(v)
        c('value')
        c('count', 0)
        c('count', 1)
        return v

    def kept():
        return ri(0, max(1, len(h.kept)))

    def room():
        while len(h.kept) >= 36:
            c('drop')

    def valcalls(n):
        for _ in range(n):
            room()
            k = r.choice(['value', 'value', 'about', 'alike', 'fits', 'fits', 'fits', 'within', 'within', 'many', 'lightest', 'tell', 'met', 'met', 'met', 'met', 'encode', 'encode', 'decode', 'decode', 'rnd', 'flip', 'named', 'drop'])
            if k == 'value':
                value()
            elif k == 'about':
                c('about', kept(), ri(0, 4))
            elif k == 'alike':
                c('alike', kept(), kept())
            elif k == 'fits':
                c('fits', kept(), ri(0, max(1, nT)))
            elif k == 'within':
                c('within', ri(0, max(1, nT)), ri(0, max(1, nT)))
            elif k == 'many':
                c('many', ri(0, max(1, nT)), ri(1, 21))
            elif k == 'lightest':
                c('lightest', ri(0, max(1, nT)))
            elif k == 'tell':
                n_ = c('tell', kept())
                for i in range(max(0, min(n_, 12))):
                    c('letter', i)
                c('letter', n_)
            elif k == 'met':
                if c('met', ri(0, max(1, nM)), kept()) == 0:
                    i = 0
                    while c('why', i) != NONE:
                        i += 1
            elif k == 'encode':
                n_ = c('encode', kept(), ri(0, max(1, nT)))
                for i in range(0, max(0, min(n_, 30))):
                    c('bit', i)
            elif k == 'decode':
                n_ = c('decode', ri(0, max(1, nT)))
                if n_ >= 0:
                    c('about', n_, 1)
                    c('tell', n_)
                    c('letter', 0)
                    c('letter', 1)
            elif k == 'rnd':
                c('noBits')
                for _ in range(r.randrange(0, 6)):
                    c('bits', r.choice([r.randrange(-2 ** 31, 2 ** 31), 0, r.randrange(256)]), ri(0, 33))
                if r.random() < 0.05:
                    for _ in range(252):
                        c('bits', r.choice([0, -1]), 32)
            elif k == 'flip':
                if nT and h.kept:
                    v = r.randrange(len(h.kept))
                    t = r.randrange(nT)
                    n_ = c('encode', v, t)
                    if n_ > 0:
                        b = list(h.bits_)
                        q = r.random()
                        if q < 0.5:
                            i = r.randrange(len(b))
                            b[i] ^= 1
                        elif q < 0.7:
                            b = b[:r.randrange(len(b) + 1)]
                        elif q < 0.8:
                            b = b + [1]
                        c('noBits')
                        for i in range(0, len(b), 32):
                            ch = b[i:i + 32]
                            x = int(''.join(map(str, ch)), 2)
                            if x >= 2 ** 31:
                                x -= 2 ** 32
                            c('bits', x, len(ch))
                        n_ = c('decode', t)
                        if n_ >= 0:
                            c('alike', n_, v)
            elif k == 'named':
                text(r.choice(['T0', 'M0', 'C0', 'F0', 'K0', 'E', 'x', 'red', 'E E', '1', '', 'type', ' K0 #a']))
                c('named')
            elif k == 'drop':
                c('drop')
            if len(calls) > 1500:
                return
    valcalls(r.randrange(3, 40) if mode != 'runs' else r.randrange(0, 8))
    cases = [i for i, u in enumerate(m.units) if u['sort'] == 'case']
    if cases and mode != 'vals':
        for _ in range(r.randrange(1, 3)):
            c('begin', r.choice(cases) if r.random() < 0.95 else ri(0, nU))
            if h.run_ is None:
                continue
            for _ in range(r.randrange(5, 60)):
                room()
                R = h.run_
                nc = len(R.comps)
                k = r.choice(['run'] * 6 + ['clock', 'clock', 'give', 'give', 'state', 'state', 'all', 'queue', 'queued', 'timer', 'variable', 'variable', 'event', 'eventValue', 'value', 'frames'])
                if k == 'run':
                    c('run', ri(0, nc), r.choice([1, 1, 1, 2, 3, 10, 10, 50]))
                elif k == 'clock':
                    c('clock', r.choice([0, 1, 1, 2, 5, 10, 10 ** 9]))
                elif k == 'give':
                    c('give', ri(0, nc), ri(0, 3), kept())
                elif k == 'state':
                    x = ri(0, nc)
                    for i in range(8):
                        c('state', x, i)
                elif k == 'all':
                    for i in range(6):
                        c('all', i)
                elif k == 'queue':
                    c('queue', ri(0, nc), ri(0, 3))
                elif k == 'queued':
                    n_ = c('queued', ri(0, nc), ri(0, 3), ri(0, 3))
                    if n_ >= 0:
                        c('tell', n_)
                        c('letter', 0)
                        c('letter', 1)
                elif k == 'timer':
                    c('timer', ri(0, nc), ri(0, 2))
                elif k == 'variable':
                    n_ = c('variable', ri(0, nc), r.choice([ri(0, 5), min(2 ** 31 - 1, 100 + ri(0, 6))]))
                    if n_ >= 0:
                        n2 = c('tell', n_)
                        for i in range(min(n2, 10)):
                            c('letter', i)
                elif k == 'event':
                    q = ri(0, len(R.log) + 1)
                    for i in range(3):
                        c('event', q, i)
                elif k == 'eventValue':
                    n_ = c('eventValue', ri(0, len(R.log) + 1))
                    if n_ >= 0:
                        c('tell', n_)
                        c('letter', 0)
                elif k == 'value':
                    value()
            for i in range(min(len(h.run_.log), 40)):
                for j in range(3):
                    c('event', i, j)
            for x in range(len(h.run_.comps)):
                for i in range(8):
                    c('state', x, i)
    if r.random() < 0.3:
        for _ in range(r.randrange(5, 60)):
            c('move', ri(0, 3), ri(0, 4), ri(0, 8), ri(0, 4), r.random() < 0.85)
        for _ in range(4):
            c('conforms', ri(0, 3), ri(0, 3))
            n_ = c('row', -1)
            for i in range(n_ + 1):
                c('row', i)
            for _ in range(6):
                c('can', ri(0, 3), ri(0, n_ + 1), ri(0, 9))
    return calls
if __name__ == '__main__':
    seeds = range(int(sys.argv[1]), int(sys.argv[1]) + int(sys.argv[2]))
    report([one(seed) for seed in seeds], seeds)
