"""A second HeckeSeries, in Python, written from DOC.md's definitions and in other ways than the
Java class: forms as all their 181 coefficients, determinants by permutations, faults by raising.
It serves make_runs.py; CI does not run it."""

import functools
import itertools
import math
import struct

SIZE = 181
LIMIT = 1 << 62
LONG_LEAST = -2 ** 63
INT_LEAST = -2 ** 31


class NoSuchElement(Exception):
    pass


class Fault(Exception):
    def __init__(self, kind, place):
        super().__init__(kind, place)
        self.kind = kind
        self.place = place


class Huge(Exception):
    pass


# ---- series

def powers_of_divisors(k, n):
    return sum(d ** k for d in range(1, n + 1) if n % d == 0)


def whole_product(a, b):
    return [sum(a[i] * b[n - i] for i in range(n + 1)) for n in range(SIZE)]


FOUR = [1] + [240 * powers_of_divisors(3, n) for n in range(1, SIZE)]
SIX = [1] + [-504 * powers_of_divisors(5, n) for n in range(1, SIZE)]
DELTA = [(x - y) // 1728 for x, y in zip(
    whole_product(whole_product(FOUR, FOUR), FOUR), whole_product(SIX, SIX))]
KNOWN = {4: FOUR, 6: SIX, 12: DELTA}
ONE = [1] + [0] * (SIZE - 1)


def product(a, b, p):
    return [sum(a[i] * b[n - i] for i in range(n + 1)) % p for n in range(SIZE)]


@functools.lru_cache(None)
def known_power(weight, exponent, p):
    if exponent == 0:
        return tuple(ONE)
    return tuple(product(known_power(weight, exponent - 1, p), [x % p for x in KNOWN[weight]], p))


def length(k):
    return k // 12 + (0 if k % 12 == 2 else 1)


def cusps(k):
    return max(length(k) - 1, 0)


@functools.lru_cache(None)
def makers(k, p):
    """Forms of weight k, the j-th beginning with 1 at j."""
    forms = []
    for j in range(length(k)):
        rest = k - 12 * j
        b = next(b for b in range(3) if rest >= 6 * b and (rest - 6 * b) % 4 == 0)
        both = product(known_power(4, (rest - 6 * b) // 4, p), known_power(6, b, p), p)
        forms.append(product(both, known_power(12, j, p), p))
    return forms


def form_of(k, row, p):
    """The form of weight k that begins with the row."""
    form = [0] * SIZE
    for j, maker in enumerate(makers(k, p)):
        factor = (row[j] - form[j]) % p
        form = [(x + factor * y) % p for x, y in zip(form, maker)]
    assert form[:length(k)] == [x % p for x in row[:length(k)]]
    return form


def hecke_at(form, k, n, m, p):
    if k < 4:
        return 0
    return sum(d ** (k - 1) * form[m * n // (d * d)]
               for d in range(1, n + 1) if n % d == 0 and m % d == 0) % p


# ---- tables

@functools.lru_cache(None)
def table_of(k, n, p):
    size = cusps(k)
    rows = []
    for i in range(1, size + 1):
        form = form_of(k, [int(j == i) for j in range(size + 1)], p)
        rows.append([hecke_at(form, k, n, j, p) for j in range(1, size + 1)])
    return rows


def times_linear(polynomial, number, with_x):
    answer = [x * number for x in polynomial] + [0]
    if with_x:
        answer = [a + b for a, b in zip(answer, [0] + polynomial)]
    return answer


@functools.lru_cache(None)
def polynomial_of(k, n, p):
    rows = table_of(k, n, p)
    size = len(rows)
    total = [0] * (size + 1)
    for order in itertools.permutations(range(size)):
        turned = sum(order[j] > order[i] for i in range(size) for j in range(i))
        part = [-1 if turned % 2 else 1]
        for i in range(size):
            part = times_linear(part, -rows[i][order[i]], order[i] == i)
        total = [a + b for a, b in zip(total, part)]
    return [x % p for x in total]


@functools.lru_cache(None)
def roots_of(k, p):
    polynomial = polynomial_of(k, 2, p)
    if len(polynomial) == 1:
        return []
    return [x for x in range(p)
            if sum(c * pow(x, i, p) for i, c in enumerate(polynomial)) % p == 0]


def own_of(k, root, p):
    """Eliminates from the last cusp to the first, so that only the first may stay free."""
    rows = table_of(k, 2, p)
    size = len(rows)
    equations = [[(rows[i][j] - (root if i == j else 0)) % p for i in range(size)]
                 for j in range(size)]
    held = []
    for column in range(size - 1, -1, -1):
        at = next((y for y in range(len(held), size) if equations[y][column]), None)
        if at is None:
            continue
        top = len(held)
        equations[top], equations[at] = equations[at], equations[top]
        part = pow(equations[top][column], -1, p)
        equations[top] = [x * part % p for x in equations[top]]
        for y in range(size):
            if y != top:
                factor = equations[y][column]
                equations[y] = [(x - factor * z) % p for x, z in zip(equations[y], equations[top])]
        held.append(column)
    if [c for c in range(size) if c not in held] != [0]:
        return None
    row = [0, 1] + [0] * (size - 1)
    for y, column in enumerate(held):
        row[column + 1] = -equations[y][0] % p
    return form_of(k, row, p)


# ---- class numbers, traces, shares

def class_forms(d):
    for a in range(1, math.isqrt(d) + 1):
        for b in range(-a + 1, a + 1):
            c, rest = divmod(d + b * b, 4 * a)
            if rest == 0 and (c > a or (c == a and b >= 0)):
                yield a, b, c


@functools.lru_cache(None)
def whole_of(d):
    if d == 0:
        return -1
    if d < 0 or d % 4 in (1, 2):
        return 0
    return sum(4 if a == b == c else 6 if b == 0 and a == c else 12 for a, b, c in class_forms(d))


def small_of(d):
    if not 1 <= d <= 2000:
        return 0
    return sum(math.gcd(math.gcd(a, b), c) == 1 for a, b, c in class_forms(d))


def bounded(number):
    if abs(number) > LIMIT:
        raise Huge()
    return number


def trace_of(k, n, check):
    total = 0
    reach = math.isqrt(4 * n)
    for t in range(-reach, reach + 1):
        before, last = 1, t
        for _ in range(4, k + 1):
            before, last = last, check(check(t * last) - check(n * before))
        total = check(total + check(last * whole_of(4 * n - t * t)))
    for d in range(1, n + 1):
        if n % d == 0:
            power = 1
            for _ in range(k - 1):
                power = check(power * min(d, n // d))
            total = check(total + check(12 * power))
    assert total % 24 == 0
    return -(total // 24)


@functools.lru_cache(None)
def trace_or_none(k, n):
    try:
        return trace_of(k, n, bounded)
    except Huge:
        return None


def as_float(number):
    """Sums, products and shares of floats may go by way of doubles: they round to the same."""
    return struct.unpack('>f', struct.pack('>f', number))[0]


def float_of_long(number):
    """Straight to 24 bits, half to even; by way of a double it could round twice."""
    size = abs(number)
    extra = max(size.bit_length() - 24, 0)
    kept, rest, half = size >> extra, size & ((1 << extra) - 1), (1 << extra) >> 1
    if extra and (rest > half or (rest == half and kept & 1)):
        kept += 1
    return float(kept << extra) * (-1 if number < 0 else 1)


def share_bits(trace, k, n):
    if cusps(k) == 0:
        return 0
    r = 1.0
    for _ in range((k - 2) // 2):
        r = as_float(r * n)
    s = float(n)
    for _ in range(20):
        s = as_float(as_float(s + as_float(n / s)) / 2)
    r = as_float(r * s)
    share = as_float(float_of_long(trace) / as_float(as_float(2 * r) * cusps(k)))
    return struct.unpack('>i', struct.pack('>f', share))[0]


# ---- books

RESERVED = ('prime', 'let', 'be', 'four', 'six', 'delta')


class Reader:
    def __init__(self, text):
        self.text = text
        self.at = 0
        self.p = 1009
        self.lets = {}

    def peek(self):
        """kind, place, end, value; a reserved word is its own kind, so is a sign."""
        text, at = self.text, self.at
        while at < len(text) and text[at] in b' \n':
            at += 1
        if at == len(text):
            return 'end', at, at, None
        for kind, signs in (('word', b'abcdefghijklmnopqrstuvwxyz'), ('number', b'0123456789')):
            end = at
            while end < len(text) and text[end] in signs:
                end += 1
            if end > at:
                word = bytes(text[at:end]).decode()
                if kind == 'number':
                    return kind, at, end, int(word) if len(word) <= 4 else None
                if word in RESERVED:
                    return word, at, end, None
                return ('name' if len(word) <= 6 else 'bad'), at, end, word
        sign = chr(text[at])
        return (sign if sign in ';+-*^()' else 'bad'), at, at + 1, None

    def next(self):
        token = self.peek()
        self.at = token[2]
        return token

    def need(self, kind):
        if self.peek()[0] != kind:
            raise Fault(1, self.peek()[1])
        return self.next()

    def number(self, may):
        _, place, _, value = self.need('number')
        if value is None or not may(value):
            raise Fault(4, place)
        return value

    def book(self):
        if self.peek()[0] == 'prime':
            self.next()
            self.p = self.number(
                lambda v: 101 <= v <= 9973 and all(v % d for d in range(2, math.isqrt(v) + 1)))
            self.need(';')
        while self.peek()[0] != 'end':
            if self.peek()[0] == 'let' and len(self.lets) == 6:
                raise Fault(5, self.peek()[1])
            self.need('let')
            _, place, _, name = self.need('name')
            if name in self.lets:
                raise Fault(2, place)
            self.need('be')
            form = self.sum(0)
            self.need(';')
            self.lets[name] = form
        return self.p, list(self.lets.values())

    def sum(self, depth):
        weight, form = self.product(depth)
        while self.peek()[0] in ('+', '-'):
            sign = 1 if self.next()[0] == '+' else -1
            place = self.peek()[1]
            weight_behind, behind = self.product(depth)
            if weight_behind != weight:
                raise Fault(6, place)
            form = [(x + sign * y) % self.p for x, y in zip(form, behind)]
        return weight, form

    def product(self, depth):
        weight, form = self.power(depth)
        while self.peek()[0] == '*':
            self.next()
            place = self.peek()[1]
            more, behind = self.power(depth)
            if weight + more > 60:
                raise Fault(7, place)
            weight, form = weight + more, product(form, behind, self.p)
        return weight, form

    def power(self, depth):
        place = self.peek()[1]
        weight, form = self.atom(depth)
        if self.peek()[0] != '^':
            return weight, form
        self.next()
        exponent = self.number(lambda v: v <= 15)
        if weight * exponent > 60:
            raise Fault(7, place)
        answer = ONE
        for _ in range(exponent):
            answer = product(answer, form, self.p)
        return weight * exponent, answer

    def atom(self, depth):
        kind, place, _, value = self.peek()
        if kind == 'number':
            return 0, [x * self.number(lambda v: True) % self.p if i == 0 else 0
                       for i, x in enumerate(ONE)]
        if kind == 'name' and value not in self.lets:
            raise Fault(3, place)
        if kind == '(' and depth == 8:
            raise Fault(5, place)
        if kind not in ('name', '(', 'four', 'six', 'delta'):
            raise Fault(1, place)
        self.next()
        if kind == 'name':
            return self.lets[value]
        if kind == '(':
            answer = self.sum(depth + 1)
            self.need(')')
            return answer
        weight = {'four': 4, 'six': 6, 'delta': 12}[kind]
        return weight, [x % self.p for x in KNOWN[weight]]


# ---- the calls

class HeckeSeries:
    def __init__(self):
        self.tape = b''
        self.p = 1009
        self.lets = []
        self.sorts = [0, 1]
        self.forget()

    def forget(self):
        self.registers = [(0, ONE)] * 4
        self.rows = [[None] * 4, [None] * 4]
        self.images = [None, None]

    @staticmethod
    def are_registers(*registers):
        return all(0 <= r < 4 for r in registers)

    @staticmethod
    def is_weight(k):
        return 0 <= k <= 60 and k % 2 == 0

    def feed(self, *numbers):
        if len(self.tape) + 20 > 600:
            return -1
        self.tape += struct.pack('>5i', *numbers)
        return len(self.tape)

    def book(self, n):
        if not 0 <= n <= len(self.tape):
            return -1
        text, self.tape = self.tape[:n], b''
        try:
            self.p, self.lets = Reader(text).book()
        except Fault as fault:
            return -2 - (8 * fault.place + fault.kind)
        self.forget()
        return len(self.lets)

    def count(self, what):
        laid = sum(image is not None for image in self.images)
        return {0: self.p, 1: len(self.lets), 2: len(self.tape), 3: laid}.get(what, -1)

    def let(self, let, what):
        if not 0 <= let < len(self.lets):
            return -1
        weight, form = self.lets[let]
        return {0: weight, 1: length(weight), 2: int(form[0] == 0)}.get(what, -1)

    def coefficient(self, r, n):
        return self.registers[r][1][n] if self.are_registers(r) and 0 <= n <= 180 else -1

    def weight(self, r):
        return self.registers[r][0] if self.are_registers(r) else -1

    def makes(self, k, only_cusps):
        if not self.is_weight(k):
            return -1
        return cusps(k) if only_cusps else length(k)

    def whole(self, d):
        if d > 2000:
            raise NoSuchElement()
        return whole_of(d)

    def small(self, d):
        return small_of(d)

    def is_trace(self, k, n):
        return self.is_weight(k) and k >= 4 and 1 <= n <= 60

    def trace(self, k, n):
        if not self.is_trace(k, n):
            return LONG_LEAST + 1
        trace = trace_or_none(k, n)
        return LONG_LEAST if trace is None else trace

    def traceLeft(self, k, n):
        return trace_of(k, n, lambda x: x) % self.p if self.is_trace(k, n) else -1

    def share(self, k, n):
        if not self.is_trace(k, n) or trace_or_none(k, n) is None:
            return INT_LEAST
        return share_bits(trace_or_none(k, n), k, n)

    def take(self, r, let):
        if not self.are_registers(r) or not 0 <= let < len(self.lets):
            return -1
        self.registers[r] = self.lets[let]
        return self.registers[r][0]

    def plus(self, r, s, f):
        if not self.are_registers(r, s) or self.registers[r][0] != self.registers[s][0]:
            return False
        (k, one), (_, other) = self.registers[r], self.registers[s]
        self.registers[r] = k, [(x + f * y) % self.p for x, y in zip(one, other)]
        return True

    def times(self, r, s):
        if not self.are_registers(r, s) or self.registers[r][0] + self.registers[s][0] > 60:
            return -1
        (k, one), (more, other) = self.registers[r], self.registers[s]
        self.registers[r] = k + more, product(one, other, self.p)
        return k + more

    def hecke_row(self, r, n):
        k, form = self.registers[r]
        return [hecke_at(form, k, n, m, self.p) for m in range(180 // n + 1)]

    def hecke(self, r, n):
        if not self.are_registers(r) or not 1 <= n <= 30:
            return False
        row = self.hecke_row(r, n)
        k = self.registers[r][0]
        form = form_of(k, row, self.p)
        assert form[:len(row)] == row
        self.registers[r] = k, form
        return True

    def multiplies(self, r, n):
        if not self.are_registers(r) or not 1 <= n <= 30:
            return -1
        form = self.registers[r][1]
        first = next((i for i, x in enumerate(form) if x), None)
        if first is None:
            return -2
        row = self.hecke_row(r, n)
        factor = row[first] * pow(form[first], -1, self.p) % self.p
        alike = all((factor * x - y) % self.p == 0 for x, y in zip(form, row))
        return factor if alike else -2

    def alike(self, r, s, n):
        if not self.are_registers(r, s) or not 0 <= n <= 180:
            return -1
        (k, one), (other_k, other) = self.registers[r], self.registers[s]
        return int(k == other_k and one[:n + 1] == other[:n + 1])

    def parts(self, r, s):
        if not self.are_registers(r, s) or self.registers[r][0] != self.registers[s][0]:
            return -1
        pairs = zip(self.registers[r][1], self.registers[s][1])
        return next((n for n, (x, y) in enumerate(pairs) if x != y), -2)

    def table(self, k, n, i, j):
        if not self.is_weight(k) or not 1 <= n <= 30:
            return -1
        if not 1 <= i <= cusps(k) or not 1 <= j <= cusps(k):
            return -1
        return table_of(k, n, self.p)[i - 1][j - 1]

    def polynomial(self, k, n, i):
        if not self.is_weight(k) or not 1 <= n <= 30 or not 0 <= i <= cusps(k):
            return -1
        return polynomial_of(k, n, self.p)[i]

    def root(self, k, i):
        if not self.is_weight(k):
            return -1
        roots = roots_of(k, self.p)
        if i == -1:
            return len(roots)
        return roots[i] if 0 <= i < len(roots) else -1

    def own(self, r, k, i):
        if not self.are_registers(r) or not self.is_weight(k):
            return -1
        if not 0 <= i < len(roots_of(k, self.p)):
            return -1
        root = roots_of(k, self.p)[i]
        form = own_of(k, root, self.p)
        if form is None:
            return -2
        assert all((hecke_at(form, k, 2, m, self.p) - root * form[m]) % self.p == 0
                   for m in range(91))
        self.registers[r] = k, form
        return root

    def put(self, shelf, row, traces, k):
        if not 0 <= shelf < 2 or not 0 <= row < 4 or self.sorts[shelf] != int(traces):
            return False
        numbers = self.registers[0][1][:13]
        if traces:
            numbers = [self.trace(k, n) for n in range(1, 13)]
            if any(number <= LONG_LEAST + 1 for number in numbers):
                return False
        self.rows[shelf][row] = numbers
        return True

    def row(self, shelf, row, i):
        if not 0 <= shelf < 2 or not 0 <= row < 4 or self.rows[shelf][row] is None:
            raise NoSuchElement()
        if not 0 <= i < len(self.rows[shelf][row]):
            raise NoSuchElement()
        return self.rows[shelf][row][i]

    def swap(self):
        self.sorts.reverse()
        self.rows = [[None] * 4, [None] * 4]
        return self.sorts[0]

    def image(self, k, back):
        if not 0 <= k < 2:
            return False
        if not back:
            rows = [list(rows) for rows in self.rows]
            self.images[k] = list(self.registers), rows, list(self.sorts)
            return True
        if self.images[k] is None or self.images[k][2] != self.sorts:
            return False
        registers, rows, _ = self.images[k]
        self.registers = list(registers)
        self.rows = [list(row) for row in rows]
        return True
