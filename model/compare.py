"""Runs the calls of many houses in Java, and tells where an answer is another one than the model's."""
import os
import subprocess
import tempfile
HERE = os.path.dirname(os.path.abspath(__file__))
MAIN = os.path.join(HERE, '..', 'src', 'main', 'java', 'MatchHouse.java')

def compare(runs):
    """runs: lists of (call, answer that is due), each of a new house. Answers {run: (call, got, due)} and what Java told."""
    lines, due, where = [], [], []
    for r, run in enumerate(runs):
        lines.append('new')
        due.append('new')
        where.append((r, -1))
        for c, (call, answer) in enumerate(run):
            lines.append(' '.join(str(x).lower() if isinstance(x, bool) else str(x) for x in call))
            due.append(str(answer))
            where.append((r, c))
    with tempfile.TemporaryDirectory() as out:
        subprocess.run(['javac', '-d', out, os.path.join(HERE, 'Drive.java'), MAIN], check=True)
        ran = subprocess.run(['java', '-cp', out, 'Drive'], input='\n'.join(lines) + '\n', capture_output=True, text=True)
    got = ran.stdout.split('\n')[:-1]
    if len(got) != len(due):
        print('answers:', len(got), 'due:', len(due), ran.stderr[-500:])
    bad = {}
    for g, d, (r, c) in zip(got, due, where):
        if g != d and r not in bad:
            bad[r] = (c, g, d)
    return bad, ran.stderr.strip()

def report(runs, labels):
    bad, told = compare(runs)
    print(len(runs), 'runs,', sum(map(len, runs)), 'calls,', len(bad), 'runs differ;', told)
    for r, (c, g, d) in list(bad.items())[:20]:
        print(labels[r], 'call', c, runs[r][c][0], 'java', g, 'model', d)
