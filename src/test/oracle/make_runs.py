"""Writes runs of random calls with the oracle's answers, as src/test/resources/runs.txt has them.

    python3 src/test/oracle/make_runs.py SEED RUNS > src/test/resources/runs.txt

A row: the call and its numbers (true 1, false 0), ' = ', the answer; 'new': a new object."""

import random
import struct
import sys

from oracle import HeckeSeries, NoSuchElement

PRIMES = [101, 103, 107, 109, 113, 127, 131, 211, 383, 677, 997, 1009, 2467, 4261, 9973]
BAD_PRIMES = [0, 97, 99, 100, 1000, 9999, 10007]
EDGES = [-2 ** 31, -2, -1, 0, 1, 5, 61, 62, 64, 2 ** 31 - 1]
NAMES = ['a', 'b', 'ab', 'abcdef', 'z', 'fours', 'lets', 'p', 'q']
PIECES = [b'let', b'be', b'prime', b'four', b'six', b'delta', b'(', b')', b'((((((((', b'(((((((((',
          b'^', b'^15', b'^16', b'*', b'+', b'-', b';', b' ', b'a', b'toolong', b'12345', b'0', b'$',
          b'\xff', b'\t', b'A', b'*delta', b'+four', b'^00003', b'^0003', b' ^ ']
KNOWN = {4: 'four', 6: 'six', 12: 'delta'}
FLAGS = {'makes': 1, 'put': 2, 'image': 1}
CALLS = ['book'] * 3 + ['count', 'let', 'weight', 'makes', 'whole', 'small', 'trace', 'traceLeft',
         'share', 'alike', 'parts', 'table', 'polynomial', 'root', 'swap', 'full'] + [
         'plus', 'times', 'hecke', 'multiplies', 'own', 'put', 'image'] * 2 + [
         'coefficient', 'row', 'take'] * 3


class Maker:
    def __init__(self, seed):
        self.random = random.Random(seed)
        self.x = HeckeSeries()

    def chance(self, part):
        return self.random.random() < part

    def number(self, least, last):
        if self.chance(.06):
            return self.random.choice(EDGES + [least - 1, last + 1])
        return self.random.randint(least, last)

    def weight(self):
        return self.random.choice(EDGES + [2, 3]) if self.chance(.06) else 2 * self.random.randint(0, 30)

    # ---- books

    def atom(self, weight, depth):
        choices = [name for name, known in self.names if known == weight]
        if weight == 0:
            choices.append(str(self.random.choice([0, 1, 2, 7, 1008, 9999, self.random.randrange(10000)])))
        if weight in KNOWN:
            choices.append(KNOWN[weight])
        if depth < 6 and self.chance(.3):
            return '( ' + self.sum(weight, depth + 1) + ')'
        return self.random.choice(choices) if choices else None

    def product(self, weight, depth):
        atom = self.atom(weight, depth)
        if atom and self.chance(.6):
            return atom
        parts = [self.atom(0, 9)] if weight == 0 or self.chance(.5) else []
        rest = weight
        while rest > 0:
            one = self.random.choice([k for k in KNOWN if k <= rest and rest - k != 2])
            exponent = 1
            while rest - (exponent + 1) * one >= 0 and rest - (exponent + 1) * one != 2 and self.chance(.6):
                exponent += 1
            parts.append(self.atom(one, depth) + ('^%d' % exponent if exponent > 1 or self.chance(.2) else ''))
            rest -= exponent * one
        if self.chance(.1):
            parts.append('delta^0')
        self.random.shuffle(parts)
        return self.random.choice(['*', ' * ', '* ']).join(parts)

    def sum(self, weight, depth):
        text = self.product(weight, depth)
        for _ in range(self.random.choice([0, 0, 1, 1, 2])):
            text += self.random.choice(['+', '-', ' + ', ' -\n']) + self.product(weight, depth)
        return text

    def text(self):
        text = ''
        if self.chance(.6):
            text = 'prime %d;' % self.random.choice(PRIMES if self.chance(.95) else BAD_PRIMES)
        self.names = []
        for i in range(self.random.choice([0, 1, 2, 3, 4, 6, 6] if self.chance(.97) else [7])):
            name = self.random.choice(NAMES)
            if any(name == known for known, _ in self.names) and self.chance(.9):
                name = 'v' + 'abcdefg'[i]
            weight = self.random.choice([k for k in range(0, 61, 2) if k != 2])
            told = self.sum(weight, 0)
            if len(text) + len(told) > 560:
                break
            text += self.random.choice(['', ' ', '\n']) + 'let ' + name + ' be ' + told + ';'
            self.names.append((name, weight))
        text = bytearray(text.encode())
        if self.chance(.35):
            for _ in range(self.random.choice([1, 1, 1, 2, 4])):
                self.spoil(text)
        return bytes(text[:600])

    def spoil(self, text):
        at = self.random.randrange(len(text) + 1)
        way = self.random.random()
        if way < .5 or at == len(text):
            text[at:at] = self.random.choice(PIECES)
        elif way < .8:
            del text[at:at + self.random.choice([1, 1, 2, 5])]
        else:
            text[at] = self.random.randrange(256)

    def book(self):
        text = self.text()
        padded = text + b' ' * (-len(text) % 20)
        calls = [('feed',) + struct.unpack('>5i', padded[i:i + 20]) for i in range(0, len(padded), 20)]
        return calls + [('book', len(text) if self.chance(.95) else self.number(0, len(text)))]

    # ---- calls

    def calls(self):
        name = self.random.choice(CALLS)
        if name == 'book':
            return self.book()
        if name == 'full':
            blanks = ('feed',) + struct.unpack('>5i', b' ' * 20)
            return [blanks] * (31 if self.chance(.1) else 1) + [
                ('count', 2), ('book', self.random.choice([0, 1, 5, 601]))]
        r, s = self.number(0, 3), self.number(0, 3)
        weight = self.weight()
        size = max(1, weight // 12)
        one = {
            'count': lambda: (self.number(0, 3),),
            'let': lambda: (self.number(0, 5), self.number(0, 2)),
            'take': lambda: (r, self.number(0, max(0, len(self.x.lets) - 1))),
            'coefficient': lambda: (r, self.number(0, 180)),
            'weight': lambda: (r,),
            'makes': lambda: (self.number(0, 60), self.random.randint(0, 1)),
            'whole': lambda: (self.random.choice([self.number(-5, 2001), 4 * self.random.randrange(501)]),),
            'small': lambda: (self.random.choice([self.number(-5, 2001), 4 * self.random.randrange(501)]),),
            'trace': lambda: (weight, self.number(1, 60)),
            'traceLeft': lambda: (weight, self.number(1, 60)),
            'share': lambda: (weight, self.random.choice([self.number(1, 60), self.number(1, 12)])),
            'plus': lambda: (r, s, self.random.choice(EDGES + [self.random.randrange(-2 ** 31, 2 ** 31)])),
            'times': lambda: (r, s),
            'parts': lambda: (r, s),
            'hecke': lambda: (r, self.number(1, 30)),
            'multiplies': lambda: (r, self.number(1, 30)),
            'alike': lambda: (r, s, self.number(0, 180)),
            'table': lambda: (weight, self.number(1, 30), self.number(1, size), self.number(1, size)),
            'polynomial': lambda: (weight, self.number(1, 30), self.number(0, size)),
            'root': lambda: (weight, self.number(-1, 3)),
            'own': lambda: (r, weight, self.number(0, 1)),
            'put': lambda: (self.number(0, 1), self.number(0, 3), self.random.randint(0, 1),
                            self.random.choice([weight, 12, 16, 24])),
            'row': lambda: (self.number(0, 1), self.number(0, 3), self.number(0, 12)),
            'swap': lambda: (),
            'image': lambda: (self.number(0, 1), self.random.randint(0, 1)),
        }[name]
        return [(name,) + one()]

    def answer(self, call):
        arguments = list(call[1:])
        if call[0] in FLAGS:
            arguments[FLAGS[call[0]]] = bool(arguments[FLAGS[call[0]]])
        try:
            return str(int(getattr(self.x, call[0])(*arguments)))
        except NoSuchElement:
            return 'throws.NoSuchElementException'


def main():
    seed, runs = int(sys.argv[1]), int(sys.argv[2])
    for run in range(runs):
        maker = Maker(seed * 100003 + run)
        made = 0
        print('new')
        while made < 480:
            for call in maker.calls():
                print(' '.join(map(str, call)), '=', maker.answer(call))
                made += 1


main()
