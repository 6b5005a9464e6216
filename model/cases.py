"""Runs of cases that mostly go well: python3 cases.py FIRST_SEED HOW_MANY."""
import random
import sys
from compare import report
from house import *
from texts import *

def one(seed):
    r = random.Random(seed)
    g = G2(r)
    h = House()
    calls = []

    def c(*a):
        e = getattr(h, a[0])(*a[1:])
        calls.append((a, e))
        return e

    def text(t):
        for f in feeds(t):
            c(*f)
    t = g.module2()
    text(t)
    ok = c('module') == 0
    c('count', 0)
    c('count', 1)
    for i in range(3, 9):
        c('count', i)
    if not ok:
        return calls
    m = h.mod
    for v in ['1', '5', '[1,2]', '{f:=1}', '"ab"', '[]', 'true', '{f:=1,g:=[2]}']:
        text(v)
        c('value')
    cases = [i for i, u in enumerate(m.units) if u['sort'] == 'case']
    for f in cases:
        c('begin', f)
        for _ in range(r.randrange(20, 120)):
            R = h.run_
            nc = len(R.comps)
            while len(h.kept) >= 38:
                c('drop')
            k = r.choice(['run'] * 10 + ['clock', 'clock', 'give', 'give', 'give', 'all', 'state', 'vars', 'queue', 'timer'])
            x = r.randrange(nc)
            if k == 'run':
                c('run', x, r.choice([1, 1, 1, 2, 3, 10]))
                for i in range(8):
                    c('state', x, i)
            elif k == 'clock':
                c('clock', r.choice([1, 1, 2, 5, 20]))
            elif k == 'give':
                c('give', x, r.randrange(len(R.comps[x].q)), r.randrange(8))
            elif k == 'all':
                for i in range(6):
                    c('all', i)
            elif k == 'vars':
                for i in list(range(8)) + list(range(100, 108)):
                    n = c('variable', x, i)
                    if n >= 0:
                        l = c('tell', n)
                        for j in range(min(l, 30)):
                            c('letter', j)
                        c('drop')
            elif k == 'queue':
                for p in range(len(R.comps[x].q)):
                    n = c('queue', x, p)
                    for i in range(n):
                        q = c('queued', x, p, i)
                        if q >= 0:
                            c('about', q, 0)
                            c('about', q, 1)
                            c('drop')
            elif k == 'timer':
                for i in range(2):
                    c('timer', x, i)
            if all((q.status == 2 for q in R.comps)) and r.random() < 0.5:
                break
        for i in range(min(len(h.run_.log), 300)):
            for j in range(3):
                c('event', i, j)
            n = c('eventValue', i)
            if n >= 0:
                l = c('tell', n)
                for j in range(min(l, 10)):
                    c('letter', j)
                c('drop')
        for x in range(len(h.run_.comps)):
            for i in range(8):
                c('state', x, i)
    return calls
if __name__ == '__main__':
    seeds = range(int(sys.argv[1]), int(sys.argv[1]) + int(sys.argv[2]))
    report([one(seed) for seed in seeds], seeds)
