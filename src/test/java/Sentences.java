/**
 * The sentences of the document that name a boundary case, in its order, each with a run of its own
 * on a new object; SentenceRun tells how a run is written. A title ends where the next line begins;
 * what stands in brackets at its end tells one of several runs for the same sentence.
 */
final class Sentences {
    private static final String DESCRIPTION = """
        # Description: An object is used for at most 512 calls (511 acts)
        511 times quarter(7, 160)
        1 times house(0) = 511

        # Description: An object is used for at most 512 calls (511 refusals)
        511 times row(160, 1) = -9
        1 times house(1) = 511

        # Description: An object is used for at most 512 calls (512 knocks)
        512 times knock() = 512

        # Description: -9: nothing changes then, but that it is counted (row)
        4 has back -5
        row(160, 1) = -9
        row(-160, -1) = -9
        house(1) = 2
        cells = zero, zero, zero, zero, back -5

        # Description: -9: nothing changes then, but that it is counted (step)
        4 has back -5
        5 has quarter 160
        step(4, 1) = -9
        step(5, 1) = -9
        house(1) = 2
        cells = zero, zero, zero, zero, back -5, quarter 160

        # Description: -9: nothing changes then, but that it is counted (turn)
        4 has back -5
        turn(4) = -9
        house(1) = 1
        cells = zero, zero, zero, zero, back -5

        # Description: -9: nothing changes then, but that it is counted (power)
        4 has back -5
        power(4, 3) = -9
        power(4, 4) = -9
        house(1) = 2
        cells = zero, zero, zero, zero, back -5

        # Description: -9: nothing changes then, but that it is counted (lessen)
        4 has back -5
        lessen(4, 3) = -9
        lessen(4, 4) = -9
        house(1) = 2
        cells = zero, zero, zero, zero, back -5

        # Description: -9: nothing changes then, but that it is counted (log)
        4 has back -5
        log(4, 3) = -9
        log(4, 4) = -9
        house(1) = 2
        cells = zero, zero, zero, zero, back -5

        # Description: A method that throws an exception changes nothing (acts, cells)
        0 has quarter 3
        7 has endless
        house(0) = 2
        quarter(8, 1) = throws.IndexOutOfBoundsException
        zero(8, true) = throws.IndexOutOfBoundsException
        endless(8, true) = throws.IndexOutOfBoundsException
        copy(0, 8) = throws.IndexOutOfBoundsException
        swap(0, 8) = throws.IndexOutOfBoundsException
        step(8, 1) = throws.IndexOutOfBoundsException
        turn(8) = throws.IndexOutOfBoundsException
        power(0, 8) = throws.IndexOutOfBoundsException
        lessen(0, 8) = throws.IndexOutOfBoundsException
        log(0, 8) = throws.IndexOutOfBoundsException
        greater(0, 7, 8) = throws.IndexOutOfBoundsException
        lesser(0, 7, 8) = throws.IndexOutOfBoundsException
        end(true, 8) = throws.IndexOutOfBoundsException
        cells = quarter 3, zero, zero, zero, zero, zero, zero, endless
        house(0) = 2
        house(1) = 0

        # Description: A method that throws an exception changes nothing (acts, arguments)
        0 has quarter 3
        7 has endless
        quarter(0, 161) = throws.IllegalArgumentException
        row(161, 0) = throws.IllegalArgumentException
        row(0, 41) = throws.IllegalArgumentException
        step(0, 321) = throws.IllegalArgumentException
        all(4) = throws.IllegalArgumentException
        cells = quarter 3, zero, zero, zero, zero, zero, zero, endless
        house(0) = 2
        house(1) = 0

        # Description: A method that throws an exception changes nothing (what is asked)
        0 has quarter 3
        7 has endless
        whole(0, 91) = throws.IllegalArgumentException
        whole(7, 0) = throws.IllegalStateException
        whole(0, 32) = throws.IllegalStateException
        height(7) = throws.IllegalStateException
        digits(7) = throws.IllegalStateException
        most(0, 7) = throws.IllegalStateException
        isWithin(0, 7) = throws.IllegalStateException
        before(4, 0) = throws.IllegalArgumentException
        answer(1, 160, 0) = throws.IllegalStateException
        house(5) = throws.IllegalArgumentException
        cells = quarter 3, zero, zero, zero, zero, zero, zero, endless
        house(0) = 2
        house(1) = 0

        # Description: If several exceptions apply, the one that is named first is thrown (cell and q)
        quarter(8, 161) = throws.IndexOutOfBoundsException
        quarter(-1, -161) = throws.IndexOutOfBoundsException

        # Description: If several exceptions apply, the one that is named first is thrown (cell and by)
        step(8, 321) = throws.IndexOutOfBoundsException
        step(-1, -321) = throws.IndexOutOfBoundsException

        # Description: If several exceptions apply, the one that is named first is thrown (cell and k)
        whole(8, 91) = throws.IndexOutOfBoundsException
        whole(-1, -63) = throws.IndexOutOfBoundsException

        # Description: If several exceptions apply, the one that is named first is thrown (k and KIND)
        0 has endless
        1 has back -5
        2 has forth 1
        whole(0, 91) = throws.IllegalArgumentException
        whole(1, -63) = throws.IllegalArgumentException
        whole(2, 91) = throws.IllegalArgumentException

        # Description: If several exceptions apply, the one that is named first is thrown (k and WHOLE)
        0 has power 160
        whole(0, 91) = throws.IllegalArgumentException
        answer(1, 160, 91) = throws.IllegalArgumentException

        # Description: If several exceptions apply, the one that is named first is thrown (a cell and not NEAR)
        most(0, 8) = throws.IndexOutOfBoundsException
        most(8, 0) = throws.IndexOutOfBoundsException
        isWithin(0, 8) = throws.IndexOutOfBoundsException
        isWithin(8, 0) = throws.IndexOutOfBoundsException

        # Description: If several exceptions apply, the one that is named first is thrown (SERIES and cell)
        before(4, 8) = throws.IndexOutOfBoundsException
        before(-1, -1) = throws.IndexOutOfBoundsException

        # Description: exceptions go ahead of -9 (row)
        row(160, 41) = throws.IllegalArgumentException
        row(-160, -41) = throws.IllegalArgumentException
        row(161, 40) = throws.IllegalArgumentException
        house(1) = 0

        # Description: exceptions go ahead of -9 (step)
        0 has power 1
        1 has quarter 160
        step(0, 321) = throws.IllegalArgumentException
        step(0, -321) = throws.IllegalArgumentException
        step(1, 321) = throws.IllegalArgumentException
        house(1) = 0

        # Description: exceptions go ahead of -9 (what can not become it, into no cell)
        0 has power 1
        1 has -endless
        power(0, 8) = throws.IndexOutOfBoundsException
        lessen(0, -1) = throws.IndexOutOfBoundsException
        log(1, 8) = throws.IndexOutOfBoundsException
        house(1) = 0

        # Description: x * 2^k, with k below 0, is x divided so often by two
        0 has quarter 160
        whole(0, 0) = 40
        whole(0, -1) = 20
        whole(0, -3) = 5
        whole(0, -4) = 2
        answer(1, 8, -1) = 3
        below(0, 1, -5) = 289
        """;

    private static final String NUMBERS = """
        # Section 1: E(0) is 1
        answer(1, 0, 0) = 1
        answer(1, 0, 30) = 1073741824
        answer(1, 0, -1) = 0

        # Section 1: E(4) is e
        answer(1, 4, 0) = 2
        answer(1, 4, 29) = 1459366444

        # Section 1: E(q): it is above 0 (the least one)
        0 has power -160
        isBelow(0) = false
        isZero(0) = false
        order(1, 0) = -1
        whole(0, 88) = 1314801958

        # Section 1: G(q), for q from -3 on
        answer(3, -3, 30) = -1488522236
        answer(3, -4, 30) = throws.IllegalArgumentException
        0 has quarter -3
        log(0, 1) = 1
        text(1) = logged -3

        # Section 1: a QUARTER of q, -160 to 160
        quarter(0, -160) = 1
        quarter(1, 160) = 1
        quarter(2, -161) = throws.IllegalArgumentException
        quarter(3, 161) = throws.IllegalArgumentException
        cells = quarter -160, quarter 160

        # Section 1: Of 0 there are two, ZERO ABOVE and ZERO BELOW
        zero(1, true) = 1
        kind(0) = 0
        kind(1) = 0
        of(1) = 0
        isAlike(0, 1) = false
        cells = zero, -zero

        # Section 1: ENDLESS ABOVE is above all others
        0 has endless
        1 has quarter 160
        2 has power 160
        3 has lessened 144
        4 has logged 160
        5 has forth 160
        6 has zero
        7 has -endless
        rank(0) = 7
        end(true, 6) = 1
        text(6) = endless

        # Section 1: ENDLESS BELOW is below all others
        0 has -endless
        1 has quarter -160
        2 has power -160
        3 has lessened -128
        4 has logged -3
        5 has back -32
        6 has -zero
        7 has endless
        rank(0) = 0
        rank(1) = 1
        end(false, 6) = 1
        text(6) = -endless

        # Section 1: ENDLESS: it has no q and no TRUE number
        0 has endless
        1 has -endless
        of(0) = 1000
        of(1) = -1000
        whole(0, 0) = throws.IllegalStateException
        height(1) = throws.IllegalStateException

        # Section 1: a POWER of q, -160 to 160
        0 has quarter -160
        1 has quarter 160
        power(0, 0) = 1
        power(1, 1) = 1
        cells = power -160, power 160

        # Section 1: a POWER of q, but not 0
        0 has quarter -1
        1 has quarter 1
        all(1) = 8
        cells = power -1, power 1, quarter 4, quarter 4, quarter 4, quarter 4, quarter 4, quarter 4

        # Section 1: a LESSENED one of q, -128 to 144
        0 has quarter -128
        1 has quarter 144
        2 has quarter -129
        3 has quarter 145
        all(2) = 6
        cells = lessened -128, lessened 144, quarter -129, quarter 145

        # Section 1: a LESSENED one of q, but not 0
        0 has quarter -1
        1 has quarter 1
        all(2) = 8
        cells = lessened -1, lessened 1

        # Section 1: a LOGGED one of q, -3 to 160
        0 has quarter -3
        1 has quarter 160
        2 has quarter -5
        3 has quarter -4
        all(3) = 7
        cells = logged -3, logged 160, quarter -5, -endless

        # Section 1: a LOGGED one of q, but not 0
        0 has quarter -1
        1 has quarter 1
        all(3) = 8
        cells = logged -1, logged 1

        # Section 1: a BACK of q, -32 to -5
        0 has lessened -32
        1 has lessened -5
        2 has lessened -33
        3 has lessened -4
        all(3) = 7
        cells = back -32, back -5, lessened -33, quarter -4

        # Section 1: a FORTH of q, -3 to 160
        0 has logged -3
        1 has logged 160
        all(2) = 8
        cells = forth -3, forth 160

        # Section 1: a FORTH of q, but not 0
        0 has logged -1
        1 has logged 1
        log(2, 2) = 0
        lessen(2, 2) = 0
        all(2) = 8
        cells = forth -1, forth 1, zero

        # Section 1: ENDLESS ones have the EXPONENT 2047 and the FRACTION 0
        0 has endless
        upper(0) = 2146435072
        lower(0) = 0

        # Section 1: the sign 1 if it is ENDLESS BELOW
        0 has -endless
        upper(0) = -1048576
        lower(0) = 0

        # Section 1: ZEROS have the EXPONENT 0 and the FRACTION 0
        upper(0) = 0
        lower(0) = 0

        # Section 1: ZEROS have the sign 1 if they are BELOW
        0 has -zero
        upper(0) = -2147483648
        lower(0) = 0

        # Section 1: A QUARTER but of 0 is kept just as it is (the least and the greatest size)
        0 has quarter 1
        1 has quarter 160
        upper(0) = 1070596096
        lower(0) = 0
        upper(1) = 1078198272
        lower(1) = 0

        # Section 1: A QUARTER with the sign 1 is that below 0
        0 has quarter -1
        1 has quarter -160
        upper(0) = -1076887552
        upper(1) = -1069285376

        # Section 1: What is kept of the KINDS 2 to 6: which one, is not told
        2 has power 4
        3 has lessened 4
        4 has logged 4
        5 has back -5
        6 has forth 4
        upper(2) = throws.IllegalStateException
        upper(3) = throws.IllegalStateException
        upper(4) = throws.IllegalStateException
        upper(5) = throws.IllegalStateException
        upper(6) = throws.IllegalStateException
        lower(2) = throws.IllegalStateException
        lower(3) = throws.IllegalStateException
        lower(4) = throws.IllegalStateException
        lower(5) = throws.IllegalStateException
        lower(6) = throws.IllegalStateException

        # Section 1: the SIGN below, if its TRUE number is below 0 (just below it)
        0 has quarter -1
        1 has lessened -1
        2 has logged -1
        3 has back -5
        4 has forth -1
        isBelow(0) = true
        isBelow(1) = true
        isBelow(2) = true
        isBelow(3) = true
        isBelow(4) = true

        # Section 1: the SIGN below, if its TRUE number is below 0 (just above it)
        0 has quarter 1
        1 has lessened 1
        2 has logged 1
        3 has power -160
        4 has forth 1
        isBelow(0) = false
        isBelow(1) = false
        isBelow(2) = false
        isBelow(3) = false
        isBelow(4) = false

        # Section 1: the SIGN below, or it is ZERO BELOW
        0 has -zero
        isBelow(0) = true
        isBelow(1) = false

        # Section 1: the SIGN below, or it is ENDLESS BELOW
        0 has -endless
        1 has endless
        isBelow(0) = true
        isBelow(1) = false

        # Section 1: ALIKE are two of the same KIND
        0 has quarter -7
        1 has back -7
        2 has lessened -7
        3 has power -7
        4 has back -7
        isAlike(0, 1) = false
        isAlike(2, 3) = false
        isAlike(1, 4) = true

        # Section 1: ALIKE are two of the same q
        0 has power 7
        1 has power 8
        2 has power 7
        isAlike(0, 1) = false
        isAlike(0, 2) = true

        # Section 1: ALIKE are two of the same SIGN
        0 has -zero
        1 has -endless
        2 has endless
        3 has quarter 7
        4 has quarter -7
        isAlike(0, 7) = false
        isAlike(1, 2) = false
        isAlike(3, 4) = false

        # Section 1: NEAR are two of unlike KINDS with the same TRUE number (a QUARTER and a BACK)
        0 has quarter -32
        1 has back -32
        2 has quarter -5
        3 has back -5
        isNear(0, 1) = true
        isNear(1, 0) = true
        isNear(2, 3) = true
        isNear(0, 3) = false
        isNear(1, 3) = false

        # Section 1: NEAR are two of unlike KINDS with the same TRUE number (a QUARTER and a FORTH)
        0 has quarter -3
        1 has forth -3
        2 has quarter 160
        3 has forth 160
        isNear(0, 1) = true
        isNear(1, 0) = true
        isNear(2, 3) = true
        isNear(0, 3) = false
        isNear(1, 3) = false

        # Section 1: NEAR: no others of unlike KINDS have the same TRUE number (the same q)
        0 has quarter 4
        1 has power 4
        2 has lessened 4
        3 has logged 4
        4 has forth 4
        isNear(0, 1) = false
        isNear(0, 2) = false
        isNear(0, 3) = false
        isNear(0, 4) = true
        isNear(1, 2) = false
        isNear(1, 3) = false
        isNear(1, 4) = false
        isNear(2, 3) = false
        isNear(2, 4) = false
        isNear(3, 4) = false

        # Section 1: NEAR are two of unlike KINDS (so ALIKE ones, both ZEROS, both ENDLESS ones are not)
        0 has endless
        1 has -endless
        2 has -zero
        3 has quarter 9
        4 has quarter 9
        isNear(0, 0) = false
        isNear(0, 1) = false
        isNear(2, 7) = false
        isNear(3, 4) = false

        # Section 1: There are eight cells, 0 to 7
        zero(0, true) = 1
        zero(7, true) = 1
        zero(-1, true) = throws.IndexOutOfBoundsException
        zero(8, true) = throws.IndexOutOfBoundsException
        cells = -zero, zero, zero, zero, zero, zero, zero, -zero

        # Section 1: at first each has ZERO ABOVE
        cells = zero, zero, zero, zero, zero, zero, zero, zero
        isBelow(0) = false
        isBelow(7) = false
        """;

    private static final String BECOMING = """
        # Section 2: POWERED, a QUARTER of q becomes the POWER of q (next to 0)
        0 has quarter -1
        1 has quarter 1
        power(0, 2) = 1
        power(1, 3) = 1
        cells = quarter -1, quarter 1, power -1, power 1

        # Section 2: POWERED, a QUARTER of q becomes the POWER of q (at both ends)
        0 has quarter -160
        1 has quarter 160
        power(0, 2) = 1
        power(1, 3) = 1
        cells = quarter -160, quarter 160, power -160, power 160

        # Section 2: POWERED, both ZEROS become the QUARTER of 4
        1 has -zero
        power(0, 2) = 1
        power(1, 3) = 1
        cells = zero, -zero, quarter 4, quarter 4

        # Section 2: POWERED, ENDLESS ABOVE stays that
        0 has endless
        power(0, 1) = 1
        power(0, 0) = 0
        cells = endless, endless

        # Section 2: POWERED, ENDLESS BELOW becomes ZERO ABOVE
        0 has -endless
        1 has -zero
        power(0, 1) = 1
        power(0, 0) = 1
        cells = zero, zero

        # Section 2: Others can not be POWERED
        0 has power 1
        1 has lessened 1
        2 has logged 1
        3 has back -5
        4 has forth 1
        power(0, 7) = -9
        power(1, 7) = -9
        power(2, 7) = -9
        power(3, 7) = -9
        power(4, 7) = -9

        # Section 2: LESSENED, a QUARTER of q, -128 to 144 (the ends)
        0 has quarter -128
        1 has quarter 144
        lessen(0, 2) = 1
        lessen(1, 3) = 1
        cells = quarter -128, quarter 144, lessened -128, lessened 144

        # Section 2: LESSENED, a QUARTER of q, -128 to 144 (one too small)
        0 has quarter -129
        lessen(0, 0) = -9
        1 has quarter -160
        lessen(1, 1) = -9

        # Section 2: LESSENED, a QUARTER of q, -128 to 144 (one too large)
        0 has quarter 145
        lessen(0, 0) = -9
        1 has quarter 160
        lessen(1, 1) = -9

        # Section 2: LESSENED, ZERO ABOVE stays that
        1 has quarter 1
        lessen(0, 1) = 1
        lessen(0, 0) = 0
        cells = zero, zero

        # Section 2: LESSENED, ZERO BELOW stays that
        0 has -zero
        lessen(0, 1) = 1
        lessen(0, 0) = 0
        cells = -zero, -zero

        # Section 2: LESSENED, ENDLESS ABOVE stays that
        0 has endless
        lessen(0, 1) = 1
        lessen(0, 0) = 0
        cells = endless, endless

        # Section 2: LESSENED, ENDLESS BELOW becomes the QUARTER of -4
        0 has -endless
        lessen(0, 0) = 1
        cells = quarter -4

        # Section 2: LESSENED, a LOGGED one of q becomes the FORTH of q (the ends)
        0 has logged -3
        1 has logged 160
        lessen(0, 2) = 1
        lessen(1, 3) = 1
        cells = logged -3, logged 160, forth -3, forth 160

        # Section 2: Others can not be LESSENED
        0 has power 1
        1 has lessened 1
        2 has back -5
        3 has forth 1
        lessen(0, 7) = -9
        lessen(1, 7) = -9
        lessen(2, 7) = -9
        lessen(3, 7) = -9

        # Section 2: LOGGED, a QUARTER of q, -3 to 160 (the ends)
        0 has quarter -3
        1 has quarter 160
        log(0, 2) = 1
        log(1, 3) = 1
        cells = quarter -3, quarter 160, logged -3, logged 160

        # Section 2: LOGGED, a QUARTER of q, -3 to 160 (too small)
        0 has quarter -5
        1 has quarter -160
        log(0, 7) = -9
        log(1, 7) = -9

        # Section 2: LOGGED, ZERO ABOVE stays that
        1 has quarter 1
        log(0, 1) = 1
        log(0, 0) = 0
        cells = zero, zero

        # Section 2: LOGGED, ZERO BELOW stays that
        0 has -zero
        log(0, 1) = 1
        log(0, 0) = 0
        cells = -zero, -zero

        # Section 2: LOGGED, the QUARTER of -4 becomes ENDLESS BELOW
        0 has quarter -4
        log(0, 1) = 1
        cells = quarter -4, -endless

        # Section 2: LOGGED, ENDLESS ABOVE stays that
        0 has endless
        log(0, 1) = 1
        log(0, 0) = 0
        cells = endless, endless

        # Section 2: LOGGED, a LESSENED one of q becomes the QUARTER of q, if q is -4 or more
        0 has lessened -4
        1 has lessened 144
        2 has lessened -1
        3 has lessened 1
        log(0, 0) = 1
        log(1, 1) = 1
        log(2, 2) = 1
        log(3, 3) = 1
        cells = quarter -4, quarter 144, quarter -1, quarter 1

        # Section 2: LOGGED, a LESSENED one of q becomes the BACK of q, if q is -32 to -5
        0 has lessened -5
        1 has lessened -32
        log(0, 0) = 1
        log(1, 1) = 1
        cells = back -5, back -32

        # Section 2: LOGGED, a LESSENED one of q, -128 to -33, can not be
        0 has lessened -33
        1 has lessened -128
        log(0, 7) = -9
        log(1, 7) = -9

        # Section 2: Others can not be LOGGED
        0 has power 1
        1 has logged 1
        2 has back -5
        3 has forth 1
        4 has -endless
        log(0, 7) = -9
        log(1, 7) = -9
        log(2, 7) = -9
        log(3, 7) = -9
        log(4, 7) = -9

        # Section 2: SERIES 0, the QUARTERS of -160 to 160
        0 has endless
        1 has quarter -160
        2 has quarter 160
        before(0, 0) = 322
        before(0, 1) = 0
        before(0, 2) = 321
        rises(0, -160, 160) = true
        rises(0, -161, 160) = throws.IllegalArgumentException
        rises(0, -160, 161) = throws.IllegalArgumentException

        # Section 2: SERIES 0, of 0 both, where NUMBERS are counted
        0 has -zero
        2 has quarter 1
        before(0, 0) = 160
        before(0, 1) = 161
        before(0, 2) = 162
        below(0, 1, 90) = 162

        # Section 2: SERIES 0, ZERO ABOVE alone, where one goes from q to q
        rises(0, -1, 1) = true
        rises(0, 0, 0) = true
        rises(0, -1, 0) = true
        rises(0, 0, 1) = true

        # Section 2: SERIES 1, what the QUARTERS of -160 to 160 become, POWERED
        0 has endless
        1 has power -160
        2 has power 160
        before(1, 0) = 321
        before(1, 1) = 0
        before(1, 2) = 320
        rises(1, -161, 160) = throws.IllegalArgumentException
        rises(1, -160, 161) = throws.IllegalArgumentException
        answer(1, -160, 88) = 1314801958
        answer(1, 160, -27) = 1753756901
        answer(1, -161, 0) = throws.IllegalArgumentException
        answer(1, 161, 0) = throws.IllegalArgumentException

        # Section 2: SERIES 1, of 0 by ZERO ABOVE alone (so the QUARTER of 4 once)
        0 has quarter 4
        1 has power 1
        2 has power -1
        before(1, 0) = 160
        before(1, 1) = 161
        before(1, 2) = 159
        rises(1, -1, 1) = true

        # Section 2: SERIES 2, what those of -128 to 144 become, LESSENED
        0 has endless
        1 has lessened -128
        2 has lessened 144
        before(2, 0) = 273
        before(2, 1) = 0
        before(2, 2) = 272
        rises(2, -129, 144) = throws.IllegalArgumentException
        rises(2, -128, 145) = throws.IllegalArgumentException
        answer(2, -128, 31) = -2147483648
        answer(2, 144, -21) = 2055755399
        answer(2, -129, 0) = throws.IllegalArgumentException
        answer(2, 145, 0) = throws.IllegalArgumentException

        # Section 2: SERIES 2, of 0 by ZERO ABOVE alone
        0 has -zero
        2 has quarter 1
        before(2, 0) = 128
        before(2, 1) = 128
        before(2, 2) = 129
        rises(2, -1, 1) = true

        # Section 2: SERIES 3, what those of -3 to 160 become, LOGGED
        0 has endless
        1 has logged -3
        2 has logged 160
        before(3, 0) = 164
        before(3, 1) = 0
        before(3, 2) = 163
        rises(3, -4, 160) = throws.IllegalArgumentException
        rises(3, -3, 161) = throws.IllegalArgumentException
        answer(3, -3, 30) = -1488522236
        answer(3, 160, 29) = 1993708822
        answer(3, -4, 0) = throws.IllegalArgumentException
        answer(3, 161, 0) = throws.IllegalArgumentException

        # Section 2: SERIES 3, of 0 by ZERO ABOVE alone
        0 has -zero
        2 has logged 1
        before(3, 0) = 3
        before(3, 1) = 3
        before(3, 2) = 4
        rises(3, -1, 1) = true
        """;

    private static final String NEARNESS_AND_ORDER = """
        # Section 3: A FORTH of q is at most 2 STEPS from the QUARTER of q
        0 has quarter -3
        1 has forth -3
        2 has quarter 160
        3 has forth 160
        4 has quarter 1
        5 has forth 1
        most(0, 1) = 2
        most(2, 3) = 2
        most(5, 4) = 2

        # Section 3: A BACK of q: 2, if q is -8 to -5
        0 has quarter -8
        1 has back -8
        2 has quarter -5
        3 has back -5
        most(0, 1) = 2
        most(2, 3) = 2

        # Section 3: A BACK of q: 2, if -12 to -9
        0 has quarter -12
        1 has back -12
        2 has quarter -9
        3 has back -9
        most(0, 1) = 2
        most(2, 3) = 2

        # Section 3: A BACK of q: 5, if -16 to -13
        0 has quarter -16
        1 has back -16
        2 has quarter -13
        3 has back -13
        most(0, 1) = 5
        most(2, 3) = 5

        # Section 3: A BACK of q: 6, if -20 to -17
        0 has quarter -20
        1 has back -20
        2 has quarter -17
        3 has back -17
        most(0, 1) = 6
        most(2, 3) = 6

        # Section 3: A BACK of q: 10, if -24 to -21
        0 has quarter -24
        1 has back -24
        2 has quarter -21
        3 has back -21
        most(0, 1) = 10
        most(2, 3) = 10

        # Section 3: A BACK of q: 53, if -28 to -25
        0 has quarter -28
        1 has back -28
        2 has quarter -25
        3 has back -25
        most(0, 1) = 53
        most(2, 3) = 53

        # Section 3: A BACK of q: 124, if -32 to -29
        0 has quarter -32
        1 has back -32
        2 has quarter -29
        3 has back -29
        most(0, 1) = 124
        most(2, 3) = 124

        # Section 4: ENDLESS BELOW stands ahead of all others
        0 has -endless
        1 has quarter -160
        2 has power -160
        3 has lessened -128
        4 has logged -3
        5 has back -32
        6 has endless
        7 has -zero
        order(0, 1) = -1
        order(0, 2) = -1
        order(0, 3) = -1
        order(0, 4) = -1
        order(0, 5) = -1
        order(0, 6) = -1
        order(0, 7) = -1
        order(1, 0) = 1

        # Section 4: all others stand ahead of ENDLESS ABOVE
        0 has endless
        1 has quarter 160
        2 has power 160
        3 has lessened 144
        4 has logged 160
        5 has forth 160
        6 has -endless
        order(1, 0) = -1
        order(2, 0) = -1
        order(3, 0) = -1
        order(4, 0) = -1
        order(5, 0) = -1
        order(6, 0) = -1
        order(7, 0) = -1
        order(0, 2) = 1

        # Section 4: one NUMBER stands ahead of another one, if its TRUE number is less (next to 0)
        0 has quarter -1
        1 has lessened -1
        2 has -zero
        3 has power -160
        4 has logged 1
        5 has quarter 1
        6 has lessened 1
        7 has power -1
        order(0, 1) = -1
        order(1, 2) = -1
        order(2, 3) = -1
        order(3, 4) = -1
        order(4, 5) = -1
        order(5, 6) = -1
        order(6, 7) = -1
        order(7, 6) = 1
        sort() = 0

        # Section 4: one NUMBER stands ahead of another one, if its TRUE number is less (next to -1)
        0 has lessened -127
        1 has lessened -128
        2 has quarter -4
        3 has back -5
        order(0, 1) = 1
        order(1, 2) = 1
        order(2, 3) = 1

        # Section 4: one NUMBER stands ahead of another one, if its TRUE number is less (POWER and LESSENED, far above)
        0 has lessened 144
        1 has power 144
        2 has lessened 143
        3 has power 143
        order(0, 1) = -1
        order(2, 3) = -1
        order(3, 0) = -1

        # Section 4: ZERO BELOW stands ahead of ZERO ABOVE
        1 has -zero
        order(1, 0) = -1
        order(0, 1) = 1

        # Section 4: Of NEAR ones neither stands ahead
        0 has quarter -32
        1 has back -32
        2 has forth 9
        3 has quarter 9
        rank(0) = 0
        rank(1) = 0
        rank(2) = 6
        rank(3) = 6
        order(0, 1) = 2

        # Section 4: nor of ALIKE ones
        0 has power 160
        1 has power 160
        2 has -zero
        3 has -zero
        4 has -endless
        5 has -endless
        order(0, 1) = 0
        order(2, 3) = 0
        order(4, 5) = 0
        order(6, 6) = 0

        # Section 4: WHOLE by k (-62)
        0 has power 160
        1 has quarter 160
        2 has quarter -160
        3 has lessened -128
        whole(0, -62) = 0
        whole(1, -62) = 0
        whole(2, -62) = -1
        whole(3, -62) = -1

        # Section 4: WHOLE by k (90)
        whole(0, 90) = 0
        0 has power -160
        whole(0, 90) = throws.IllegalStateException
        0 has quarter 1
        whole(0, 90) = throws.IllegalStateException
        0 has quarter -1
        whole(0, 90) = throws.IllegalStateException

        # Section 4: rounded down (to the greatest whole number that is not above it), above 0
        0 has quarter 3
        1 has power 3
        whole(0, 0) = 0
        whole(1, 0) = 2

        # Section 4: rounded down (to the greatest whole number that is not above it), below 0
        0 has quarter -3
        1 has lessened -3
        2 has logged -3
        3 has quarter -5
        whole(0, 0) = -1
        whole(1, 0) = -1
        whole(2, 0) = -2
        whole(3, 0) = -2

        # Section 4: rounded down: a whole number stays that
        0 has quarter -8
        1 has quarter 8
        2 has quarter -1
        3 has quarter 1
        whole(0, 0) = -2
        whole(1, 0) = 2
        whole(2, 2) = -1
        whole(3, 2) = 1

        # Section 4: WHOLE of both ZEROS 0
        0 has -zero
        whole(0, 0) = 0
        whole(0, -62) = 0
        whole(0, 90) = 0
        whole(1, -62) = 0
        whole(1, 90) = 0

        # Section 4: HEIGHT, of the KINDS 0, 2, 3 and 4
        0 has quarter 1
        2 has power 1
        3 has lessened 1
        4 has logged 1
        height(0) = -2
        height(2) = 0
        height(3) = -2
        height(4) = -3

        # Section 4: HEIGHT, of a NUMBER that is no ZERO (others have none)
        0 has -zero
        1 has endless
        2 has -endless
        5 has back -5
        6 has forth 1
        height(0) = throws.IllegalStateException
        height(1) = throws.IllegalStateException
        height(2) = throws.IllegalStateException
        height(5) = throws.IllegalStateException
        height(6) = throws.IllegalStateException
        height(7) = throws.IllegalStateException

        # Section 4: HEIGHT: the TRUE number is 2^h or more (just 2^h)
        0 has quarter 1
        1 has quarter 2
        2 has quarter 4
        3 has quarter 128
        height(0) = -2
        height(1) = -1
        height(2) = 0
        height(3) = 5

        # Section 4: HEIGHT: and less than 2^(h + 1) (just less)
        0 has quarter 3
        1 has quarter 127
        2 has lessened -128
        height(0) = -1
        height(1) = 4
        height(2) = -1

        # Section 4: HEIGHT: the TRUE number, without its SIGN
        0 has quarter -1
        1 has quarter -128
        2 has lessened -128
        3 has logged -3
        4 has quarter -160
        height(0) = -2
        height(1) = 5
        height(2) = -1
        height(3) = 0
        height(4) = 5

        # Section 4: HEIGHT of the least and the greatest one
        0 has power -160
        1 has power 160
        2 has lessened 144
        3 has logged 160
        height(0) = -58
        height(1) = 57
        height(2) = 51
        height(3) = 1

        # Section 4: DIGITS: without its SIGN, times 2^(30 - h), rounded down
        0 has lessened -1
        1 has logged -1
        2 has lessened 1
        3 has quarter -3
        digits(0) = 1900086805
        digits(1) = 1235585092
        digits(2) = 1219879875
        digits(3) = 1610612736
        """;

    private static final String WHAT_COMES = """
        # Promise 1: Creates eight cells with ZERO ABOVE
        cells = zero, zero, zero, zero, zero, zero, zero, zero
        house(0) = 0
        house(1) = 0
        house(2) = 0
        house(3) = 8
        house(4) = 0

        # Promise 2: of 0: ZERO ABOVE
        0 has -zero
        1 has quarter 1
        quarter(0, 0) = 1
        quarter(1, 0) = 1
        quarter(2, 0) = 0
        cells = zero, zero, zero

        # Promise 2: Returns 1 if another one was there (a NEAR one)
        0 has back -5
        1 has forth 1
        quarter(0, -5) = 1
        quarter(1, 1) = 1
        cells = quarter -5, quarter 1

        # Promise 2: Returns 1 if another one was there (of the other SIGN, of another KIND)
        0 has quarter -5
        1 has power 5
        quarter(0, 5) = 1
        quarter(1, 5) = 1
        cells = quarter 5, quarter 5

        # Promise 2: 0 if an ALIKE one was
        0 has quarter -160
        1 has quarter 160
        quarter(0, -160) = 0
        quarter(1, 160) = 0
        house(0) = 4

        # Promise 2: Throws IndexOutOfBoundsException if cell is not 0 to 7
        quarter(-1, 1) = throws.IndexOutOfBoundsException
        quarter(8, 1) = throws.IndexOutOfBoundsException
        quarter(-2147483648, 1) = throws.IndexOutOfBoundsException
        quarter(2147483647, 1) = throws.IndexOutOfBoundsException
        quarter(0, 1) = 1
        quarter(7, 1) = 1

        # Promise 2: Throws IllegalArgumentException if q is not -160 to 160
        quarter(0, -161) = throws.IllegalArgumentException
        quarter(0, 161) = throws.IllegalArgumentException
        quarter(0, -2147483648) = throws.IllegalArgumentException
        quarter(0, 2147483647) = throws.IllegalArgumentException
        quarter(0, -160) = 1
        quarter(0, 160) = 1

        # Promise 3: Returns 1 if another one was there (the other ZERO)
        zero(0, true) = 1
        zero(0, false) = 1
        cells = zero

        # Promise 3: 0 if an ALIKE one was
        1 has -zero
        zero(0, false) = 0
        zero(1, true) = 0
        house(0) = 3

        # Promise 3: Throws IndexOutOfBoundsException if cell is not 0 to 7
        zero(-1, false) = throws.IndexOutOfBoundsException
        zero(8, false) = throws.IndexOutOfBoundsException
        zero(-2147483648, true) = throws.IndexOutOfBoundsException
        zero(2147483647, true) = throws.IndexOutOfBoundsException
        zero(0, true) = 1
        zero(7, true) = 1

        # Promise 4: Returns 1 if another one was there (the other ENDLESS one)
        0 has endless
        endless(0, true) = 1
        endless(0, false) = 1
        endless(1, false) = 1
        endless(2, true) = 1
        cells = endless, endless, -endless

        # Promise 4: 0 if an ALIKE one was
        0 has endless
        1 has -endless
        endless(0, false) = 0
        endless(1, true) = 0
        house(0) = 4

        # Promise 4: Throws IndexOutOfBoundsException if cell is not 0 to 7
        endless(-1, false) = throws.IndexOutOfBoundsException
        endless(8, false) = throws.IndexOutOfBoundsException
        endless(-2147483648, true) = throws.IndexOutOfBoundsException
        endless(2147483647, true) = throws.IndexOutOfBoundsException
        endless(0, true) = 1
        endless(7, true) = 1

        # Promise 5: to each next one that of by more (below and above)
        row(-4, 2) = 7
        cells = quarter -4, quarter -2, zero, quarter 2, quarter 4, quarter 6, quarter 8, quarter 10

        # Promise 5: of 0: ZERO ABOVE
        2 has -zero
        row(-4, 2) = 8
        text(2) = zero

        # Promise 5: by 0 the same comes to all
        row(160, 0) = 8
        row(-160, 0) = 8
        row(-160, 0) = 0
        house(0) = 3

        # Promise 5: Returns how many cells have another one then (none)
        row(0, 0) = 0
        house(0) = 1

        # Promise 5: -9 if one would not be a QUARTER of -160 to 160 (the last one just is)
        row(120, -40) = 7
        row(-120, 40) = 7
        row(153, 1) = 7
        row(-153, -1) = 8
        row(20, 20) = 8
        text(7) = quarter 160
        house(1) = 0

        # Promise 5: -9 if one would not be a QUARTER of -160 to 160 (the last one is too large)
        row(-119, 40) = -9
        row(154, 1) = -9
        row(160, 40) = -9
        row(21, 20) = -9

        # Promise 5: -9 if one would not be a QUARTER of -160 to 160 (the last one is too small)
        row(119, -40) = -9
        row(-154, -1) = -9
        row(-160, -40) = -9
        row(-21, -20) = -9

        # Promise 5: Throws IllegalArgumentException if from is not -160 to 160
        row(-161, 40) = throws.IllegalArgumentException
        row(161, -40) = throws.IllegalArgumentException
        row(-2147483648, 0) = throws.IllegalArgumentException
        row(2147483647, 0) = throws.IllegalArgumentException
        row(-160, 40) = 7
        row(160, -40) = 7

        # Promise 5: Throws IllegalArgumentException if by is not -40 to 40
        row(0, -41) = throws.IllegalArgumentException
        row(0, 41) = throws.IllegalArgumentException
        row(0, -2147483648) = throws.IllegalArgumentException
        row(0, 2147483647) = throws.IllegalArgumentException
        row(140, -40) = 8
        row(-140, 40) = 8

        # Promise 6: ZERO ABOVE comes to all cells
        0 has -zero
        1 has endless
        6 has back -5
        7 has power 1
        wipe() = 4
        cells = zero, zero, zero, zero, zero, zero, zero, zero

        # Promise 6: Returns how many cells have another one then (none, all)
        wipe() = 0
        house(0) = 1
        row(1, 1) = 8
        wipe() = 8

        # Promise 7: into: the other one, or the same
        0 has forth 9
        copy(0, 0) = 0
        copy(0, 7) = 1
        cells = forth 9, zero, zero, zero, zero, zero, zero, forth 9
        house(0) = 5

        # Promise 7: Returns 1 if another one was there (a NEAR one, the other ZERO)
        0 has forth 9
        1 has quarter 9
        2 has -zero
        copy(0, 1) = 1
        copy(2, 3) = 1
        cells = forth 9, forth 9, -zero, -zero

        # Promise 7: 0 if an ALIKE one was
        0 has power -9
        1 has power -9
        copy(0, 1) = 0
        cells = power -9, power -9

        # Promise 7: Throws IndexOutOfBoundsException if one is not 0 to 7
        copy(-1, 0) = throws.IndexOutOfBoundsException
        copy(8, 0) = throws.IndexOutOfBoundsException
        copy(0, -1) = throws.IndexOutOfBoundsException
        copy(0, 8) = throws.IndexOutOfBoundsException
        copy(-2147483648, 2147483647) = throws.IndexOutOfBoundsException
        copy(0, 7) = 0
        copy(7, 0) = 0

        # Promise 8: other: another one, or the same
        0 has back -7
        swap(0, 0) = 0
        swap(0, 7) = 1
        swap(7, 6) = 1
        cells = zero, zero, zero, zero, zero, zero, back -7

        # Promise 8: Returns 1 if what they had was not ALIKE (but NEAR)
        0 has back -7
        1 has quarter -7
        2 has -zero
        swap(0, 1) = 1
        swap(2, 3) = 1
        cells = quarter -7, back -7, zero, -zero

        # Promise 8: otherwise 0
        0 has back -7
        1 has back -7
        swap(0, 1) = 0
        swap(6, 7) = 0
        cells = back -7, back -7

        # Promise 8: Throws IndexOutOfBoundsException if one is not 0 to 7
        swap(-1, 0) = throws.IndexOutOfBoundsException
        swap(8, 0) = throws.IndexOutOfBoundsException
        swap(0, -1) = throws.IndexOutOfBoundsException
        swap(0, 8) = throws.IndexOutOfBoundsException
        swap(2147483647, -2147483648) = throws.IndexOutOfBoundsException
        swap(7, 0) = 0
        swap(0, 7) = 0

        # Promise 9: of 0: ZERO ABOVE
        0 has quarter 160
        1 has quarter -160
        step(0, -160) = 1
        step(1, 160) = 1
        cells = zero, zero
        isBelow(0) = false
        isBelow(1) = false

        # Promise 9: also of ZERO BELOW by 0, and it is another one then
        0 has -zero
        step(0, 0) = 1
        cells = zero

        # Promise 9: ZERO BELOW by more
        0 has -zero
        1 has -zero
        step(0, 160) = 1
        step(1, -160) = 1
        cells = quarter 160, quarter -160

        # Promise 9: 0 if an ALIKE one
        0 has quarter -160
        step(0, 0) = 0
        step(1, 0) = 0
        house(0) = 3

        # Promise 9: -9 if there is no QUARTER
        0 has endless
        1 has -endless
        2 has power 4
        3 has lessened 4
        4 has logged 4
        5 has back -5
        6 has forth 4
        step(0, 0) = -9
        step(1, 0) = -9
        step(2, 0) = -9
        step(3, 0) = -9
        step(4, 0) = -9
        step(5, 0) = -9
        step(6, 0) = -9

        # Promise 9: -9 if what would come is not one of -160 to 160 (it just is)
        0 has quarter 159
        1 has quarter -159
        step(0, 1) = 1
        step(1, -1) = 1
        step(0, -320) = 1
        step(1, 320) = 1
        cells = quarter -160, quarter 160

        # Promise 9: -9 if what would come is not one of -160 to 160 (too large)
        0 has quarter 160
        1 has quarter -159
        step(0, 1) = -9
        step(1, 320) = -9
        step(0, 320) = -9
        step(2, 161) = -9

        # Promise 9: -9 if what would come is not one of -160 to 160 (too small)
        0 has quarter -160
        1 has quarter 159
        step(0, -1) = -9
        step(1, -320) = -9
        step(0, -320) = -9
        step(2, -161) = -9

        # Promise 9: Throws IndexOutOfBoundsException if cell is not 0 to 7
        step(-1, 0) = throws.IndexOutOfBoundsException
        step(8, 0) = throws.IndexOutOfBoundsException
        step(-2147483648, 0) = throws.IndexOutOfBoundsException
        step(2147483647, 0) = throws.IndexOutOfBoundsException
        step(0, 1) = 1
        step(7, 1) = 1

        # Promise 9: Throws IllegalArgumentException if by is not -320 to 320
        0 has quarter 160
        step(0, -321) = throws.IllegalArgumentException
        step(0, 321) = throws.IllegalArgumentException
        step(0, -2147483648) = throws.IllegalArgumentException
        step(0, 2147483647) = throws.IllegalArgumentException
        step(0, -320) = 1
        step(0, 320) = 1

        # Promise 10: a QUARTER of q becomes that of -q
        0 has quarter -160
        1 has quarter 160
        2 has quarter 1
        turn(0) = 1
        turn(1) = 1
        turn(2) = 1
        cells = quarter 160, quarter -160, quarter -1

        # Promise 10: ZERO ABOVE becomes ZERO BELOW, and the other way round
        turn(0) = 1
        text(0) = -zero
        turn(0) = 1
        text(0) = zero

        # Promise 10: or an ENDLESS one
        0 has endless
        turn(0) = 1
        text(0) = -endless
        turn(0) = 1
        text(0) = endless

        # Promise 10: -9 if the cell has neither
        0 has power 1
        1 has lessened 1
        2 has logged 1
        3 has back -5
        4 has forth 1
        turn(0) = -9
        turn(1) = -9
        turn(2) = -9
        turn(3) = -9
        turn(4) = -9

        # Promise 10: Throws IndexOutOfBoundsException if cell is not 0 to 7
        turn(-1) = throws.IndexOutOfBoundsException
        turn(8) = throws.IndexOutOfBoundsException
        turn(-2147483648) = throws.IndexOutOfBoundsException
        turn(2147483647) = throws.IndexOutOfBoundsException
        turn(0) = 1
        turn(7) = 1
        """;

    private static final String WHAT_BECOMES = """
        # Promise 11: into: the cell to which it comes, or the same
        0 has quarter -1
        power(0, 7) = 1
        power(0, 0) = 1
        cells = power -1, zero, zero, zero, zero, zero, zero, power -1

        # Promise 11: 0 if an ALIKE one was (another cell, the same)
        0 has quarter -160
        1 has power -160
        2 has endless
        3 has quarter 4
        power(0, 1) = 0
        power(2, 2) = 0
        power(4, 3) = 0

        # Promise 11: -9 if it can not be POWERED (whatever is there)
        0 has power 1
        1 has power 1
        power(0, 1) = -9
        power(0, 2) = -9
        cells = power 1, power 1

        # Promise 11: Throws IndexOutOfBoundsException if one is not 0 to 7
        power(-1, 0) = throws.IndexOutOfBoundsException
        power(8, 0) = throws.IndexOutOfBoundsException
        power(0, -1) = throws.IndexOutOfBoundsException
        power(0, 8) = throws.IndexOutOfBoundsException
        power(2147483647, -2147483648) = throws.IndexOutOfBoundsException
        power(0, 7) = 1
        power(7, 0) = 1

        # Promise 12: into: the cell to which it comes, or the same
        0 has quarter -1
        lessen(0, 7) = 1
        lessen(0, 0) = 1
        cells = lessened -1, zero, zero, zero, zero, zero, zero, lessened -1

        # Promise 12: 0 if an ALIKE one was (another cell, the same)
        0 has quarter -128
        1 has lessened -128
        2 has -zero
        3 has forth 160
        4 has logged 160
        lessen(0, 1) = 0
        lessen(2, 2) = 0
        lessen(4, 3) = 0
        lessen(5, 6) = 0

        # Promise 12: 1 if another one was there (a NEAR one)
        0 has logged 160
        1 has quarter 160
        lessen(0, 1) = 1
        text(1) = forth 160

        # Promise 12: -9 if it can not be LESSENED (whatever is there)
        0 has forth 1
        1 has forth 1
        lessen(0, 1) = -9
        lessen(0, 2) = -9
        cells = forth 1, forth 1

        # Promise 12: Throws IndexOutOfBoundsException if one is not 0 to 7
        lessen(-1, 0) = throws.IndexOutOfBoundsException
        lessen(8, 0) = throws.IndexOutOfBoundsException
        lessen(0, -1) = throws.IndexOutOfBoundsException
        lessen(0, 8) = throws.IndexOutOfBoundsException
        lessen(2147483647, -2147483648) = throws.IndexOutOfBoundsException
        lessen(0, 7) = 0
        lessen(7, 0) = 0

        # Promise 13: into: the cell to which it comes, or the same
        0 has quarter -1
        log(0, 7) = 1
        log(0, 0) = 1
        cells = logged -1, zero, zero, zero, zero, zero, zero, logged -1

        # Promise 13: 0 if an ALIKE one was (another cell, the same)
        0 has quarter -4
        1 has -endless
        2 has -zero
        3 has back -32
        4 has lessened -32
        log(0, 1) = 0
        log(2, 2) = 0
        log(4, 3) = 0
        log(5, 6) = 0

        # Promise 13: 1 if another one was there (a NEAR one)
        0 has lessened -32
        1 has quarter -32
        log(0, 1) = 1
        text(1) = back -32

        # Promise 13: -9 if it can not be LOGGED (whatever is there)
        0 has quarter -5
        1 has back -5
        log(0, 1) = -9
        log(1, 1) = -9
        cells = quarter -5, back -5

        # Promise 13: Throws IndexOutOfBoundsException if one is not 0 to 7
        log(-1, 0) = throws.IndexOutOfBoundsException
        log(8, 0) = throws.IndexOutOfBoundsException
        log(0, -1) = throws.IndexOutOfBoundsException
        log(0, 8) = throws.IndexOutOfBoundsException
        log(2147483647, -2147483648) = throws.IndexOutOfBoundsException
        log(0, 7) = 0
        log(7, 0) = 0

        # Promise 14: the others stay (POWERED)
        0 has power 1
        1 has lessened 1
        2 has logged 1
        3 has back -5
        4 has forth 1
        5 has -endless
        6 has quarter -160
        all(1) = 3
        cells = power 1, lessened 1, logged 1, back -5, forth 1, zero, power -160, quarter 4

        # Promise 14: the others stay (LESSENED)
        0 has power 1
        1 has lessened 1
        2 has logged 1
        3 has back -5
        4 has forth 1
        5 has -endless
        6 has quarter 145
        7 has quarter 144
        all(2) = 3
        cells = power 1, lessened 1, forth 1, back -5, forth 1, quarter -4, quarter 145, lessened 144

        # Promise 14: the others stay (LOGGED)
        0 has power 1
        1 has lessened -33
        2 has logged 1
        3 has back -5
        4 has forth 1
        5 has -endless
        6 has quarter -5
        7 has quarter -4
        all(3) = 1
        cells = power 1, lessened -33, logged 1, back -5, forth 1, -endless, quarter -5, -endless

        # Promise 14: Returns how many cells could (also if what came is ALIKE)
        0 has -zero
        1 has endless
        all(2) = 8
        all(3) = 8
        cells = -zero, endless

        # Promise 14: Returns how many cells could (none, and it is an act)
        row(1, 1) = 8
        all(1) = 8
        all(1) = 0
        all(2) = 0
        all(3) = 0
        house(0) = 5
        house(1) = 0

        # Promise 14: Throws IllegalArgumentException if how is not 1 to 3
        all(0) = throws.IllegalArgumentException
        all(4) = throws.IllegalArgumentException
        all(-1) = throws.IllegalArgumentException
        all(-2147483648) = throws.IllegalArgumentException
        all(2147483647) = throws.IllegalArgumentException
        all(1) = 8
        all(3) = 8

        # Promise 15: if neither stands ahead: the first one (NEAR)
        0 has quarter -32
        1 has back -32
        greater(0, 1, 2) = 1
        greater(1, 0, 3) = 1
        cells = quarter -32, back -32, quarter -32, back -32

        # Promise 15: if neither stands ahead: the first one (ALIKE, the same cell)
        0 has power 5
        1 has power 5
        greater(0, 1, 0) = 0
        greater(0, 0, 2) = 1
        cells = power 5, power 5, power 5

        # Promise 15: Of two that which the other one stands ahead of (both ZEROS)
        1 has -zero
        greater(0, 1, 2) = 0
        greater(1, 0, 3) = 0
        greater(1, 0, 1) = 1
        cells = zero, zero, zero, zero

        # Promise 15: Of two that which the other one stands ahead of (both ENDLESS ones)
        0 has endless
        1 has -endless
        greater(0, 1, 2) = 1
        greater(1, 0, 3) = 1
        greater(1, 7, 1) = 1
        cells = endless, zero, endless, endless

        # Promise 15: Throws IndexOutOfBoundsException if one is not 0 to 7
        greater(-1, 0, 0) = throws.IndexOutOfBoundsException
        greater(8, 0, 0) = throws.IndexOutOfBoundsException
        greater(0, -1, 0) = throws.IndexOutOfBoundsException
        greater(0, 8, 0) = throws.IndexOutOfBoundsException
        greater(0, 0, -1) = throws.IndexOutOfBoundsException
        greater(0, 0, 8) = throws.IndexOutOfBoundsException
        greater(2147483647, -2147483648, 2147483647) = throws.IndexOutOfBoundsException
        greater(0, 7, 0) = 0
        greater(7, 0, 7) = 0

        # Promise 16: if neither stands ahead: the first one (NEAR)
        0 has quarter -32
        1 has back -32
        lesser(0, 1, 2) = 1
        lesser(1, 0, 3) = 1
        cells = quarter -32, back -32, quarter -32, back -32

        # Promise 16: if neither stands ahead: the first one (ALIKE, the same cell)
        0 has power 5
        1 has power 5
        lesser(0, 1, 0) = 0
        lesser(0, 0, 2) = 1
        cells = power 5, power 5, power 5

        # Promise 16: Of two that which stands ahead of the other one (both ZEROS)
        1 has -zero
        lesser(0, 1, 2) = 1
        lesser(1, 0, 3) = 1
        lesser(1, 0, 1) = 0
        cells = zero, -zero, -zero, -zero

        # Promise 16: Of two that which stands ahead of the other one (both ENDLESS ones)
        0 has endless
        1 has -endless
        lesser(0, 1, 2) = 1
        lesser(1, 0, 3) = 1
        lesser(0, 7, 0) = 1
        cells = zero, -endless, -endless, -endless

        # Promise 16: Throws IndexOutOfBoundsException if one is not 0 to 7
        lesser(-1, 0, 0) = throws.IndexOutOfBoundsException
        lesser(8, 0, 0) = throws.IndexOutOfBoundsException
        lesser(0, -1, 0) = throws.IndexOutOfBoundsException
        lesser(0, 8, 0) = throws.IndexOutOfBoundsException
        lesser(0, 0, -1) = throws.IndexOutOfBoundsException
        lesser(0, 0, 8) = throws.IndexOutOfBoundsException
        lesser(2147483647, -2147483648, 2147483647) = throws.IndexOutOfBoundsException
        lesser(0, 7, 0) = 0
        lesser(7, 0, 7) = 0

        # Promise 17: that which stands ahead of no other one (in the first cell, in the last one)
        0 has quarter 1
        end(true, 3) = 1
        7 has quarter 2
        end(true, 4) = 1
        cells = quarter 1, zero, zero, quarter 1, quarter 2, zero, zero, quarter 2

        # Promise 17: Of all cells the one that stands ahead of no other one (in each cell)
        1 has quarter 1
        end(true, 0) = 1
        2 has quarter 2
        end(true, 0) = 1
        3 has quarter 3
        end(true, 0) = 1
        4 has quarter 4
        end(true, 0) = 1
        5 has quarter 5
        end(true, 0) = 1
        6 has quarter 6
        end(true, 0) = 1
        text(0) = quarter 6

        # Promise 17: the one which no other one stands ahead of (in the first cell, in the last one)
        0 has quarter -1
        end(false, 3) = 1
        7 has quarter -2
        end(false, 4) = 1
        cells = quarter -1, zero, zero, quarter -1, quarter -2, zero, zero, quarter -2

        # Promise 17: Of all cells the one which no other one stands ahead of (in each cell)
        1 has quarter -1
        end(false, 0) = 1
        2 has quarter -2
        end(false, 0) = 1
        3 has quarter -3
        end(false, 0) = 1
        4 has quarter -4
        end(false, 0) = 1
        5 has quarter -5
        end(false, 0) = 1
        6 has quarter -6
        end(false, 0) = 1
        text(0) = quarter -6

        # Promise 17: of several such ones that in the cell with the smallest number (greatest, NEAR)
        2 has forth 9
        5 has quarter 9
        end(true, 0) = 1
        text(0) = forth 9

        # Promise 17: of several such ones that in the cell with the smallest number (least, NEAR)
        2 has quarter -9
        5 has back -9
        end(false, 7) = 1
        text(7) = quarter -9

        # Promise 17: of several such ones (both ZEROS are not)
        2 has -zero
        end(true, 3) = 0
        end(false, 4) = 1
        text(4) = -zero

        # Promise 17: of several such ones (all ALIKE)
        end(true, 0) = 0
        end(false, 7) = 0
        house(0) = 2

        # Promise 17: both ENDLESS ones are the ends
        6 has endless
        7 has -endless
        end(true, 0) = 1
        end(false, 1) = 1
        end(true, 6) = 0
        end(false, 7) = 0
        cells = endless, -endless, zero, zero, zero, zero, endless, -endless

        # Promise 17: Throws IndexOutOfBoundsException if into is not 0 to 7
        end(true, -1) = throws.IndexOutOfBoundsException
        end(false, 8) = throws.IndexOutOfBoundsException
        end(true, -2147483648) = throws.IndexOutOfBoundsException
        end(false, 2147483647) = throws.IndexOutOfBoundsException
        end(true, 0) = 0
        end(false, 7) = 0

        # Promise 18: what is ahead first (both ENDLESS ones, both ZEROS)
        0 has endless
        1 has power -160
        3 has -zero
        4 has lessened -128
        5 has back -5
        6 has quarter -160
        7 has -endless
        sort() = 8
        cells = -endless, quarter -160, back -5, lessened -128, -zero, zero, power -160, endless

        # Promise 18: the one that had the smaller cell stays ahead (NEAR)
        0 has quarter 9
        1 has forth 9
        2 has back -9
        3 has quarter -9
        4 has forth 9
        5 has quarter 9
        sort() = 8
        cells = back -9, quarter -9, zero, zero, quarter 9, forth 9, forth 9, quarter 9

        # Promise 18: Returns how many cells have another one then (none)
        sort() = 0
        row(-160, 1) = 8
        sort() = 0
        house(0) = 3

        # Promise 18: Returns how many cells have another one then (all, two)
        row(160, -1) = 8
        sort() = 8
        swap(3, 4) = 1
        sort() = 2
        text(0) = quarter 153
        """;

    private static final String ASKED = """
        # Promise 19: Returns the KIND of what it has, 0 to 6
        0 has -zero
        1 has -endless
        2 has power 1
        3 has lessened 1
        4 has logged 1
        5 has back -5
        6 has forth 1
        7 has quarter -160
        kind(0) = 0
        kind(1) = 1
        kind(2) = 2
        kind(3) = 3
        kind(4) = 4
        kind(5) = 5
        kind(6) = 6
        kind(7) = 0

        # Promise 19: Throws IndexOutOfBoundsException if cell is not 0 to 7
        kind(-1) = throws.IndexOutOfBoundsException
        kind(8) = throws.IndexOutOfBoundsException
        kind(-2147483648) = throws.IndexOutOfBoundsException
        kind(2147483647) = throws.IndexOutOfBoundsException
        kind(0) = 0
        kind(7) = 0

        # Promise 20: Returns the q of what it has (least and greatest)
        0 has quarter -160
        1 has quarter 160
        2 has power -160
        3 has lessened 144
        4 has logged -3
        5 has back -32
        6 has forth 160
        7 has -zero
        of(0) = -160
        of(1) = 160
        of(2) = -160
        of(3) = 144
        of(4) = -3
        of(5) = -32
        of(6) = 160
        of(7) = 0

        # Promise 20: 1000 if it is ENDLESS ABOVE
        0 has endless
        of(0) = 1000

        # Promise 20: -1000 if ENDLESS BELOW
        0 has -endless
        of(0) = -1000

        # Promise 20: Throws IndexOutOfBoundsException if cell is not 0 to 7
        of(-1) = throws.IndexOutOfBoundsException
        of(8) = throws.IndexOutOfBoundsException
        of(-2147483648) = throws.IndexOutOfBoundsException
        of(2147483647) = throws.IndexOutOfBoundsException
        of(0) = 0
        of(7) = 0

        # Promise 21: Returns whether what it has has the SIGN below
        0 has power -160
        1 has lessened -1
        2 has -zero
        3 has back -32
        4 has -endless
        isBelow(0) = false
        isBelow(1) = true
        isBelow(2) = true
        isBelow(3) = true
        isBelow(4) = true
        isBelow(5) = false

        # Promise 21: Throws IndexOutOfBoundsException if cell is not 0 to 7
        isBelow(-1) = throws.IndexOutOfBoundsException
        isBelow(8) = throws.IndexOutOfBoundsException
        isBelow(-2147483648) = throws.IndexOutOfBoundsException
        isBelow(2147483647) = throws.IndexOutOfBoundsException
        isBelow(0) = false
        isBelow(7) = false

        # Promise 22: Returns whether it has a ZERO
        0 has -zero
        2 has quarter 1
        3 has quarter -1
        4 has power -160
        5 has -endless
        isZero(0) = true
        isZero(1) = true
        isZero(2) = false
        isZero(3) = false
        isZero(4) = false
        isZero(5) = false

        # Promise 22: Throws IndexOutOfBoundsException if cell is not 0 to 7
        isZero(-1) = throws.IndexOutOfBoundsException
        isZero(8) = throws.IndexOutOfBoundsException
        isZero(-2147483648) = throws.IndexOutOfBoundsException
        isZero(2147483647) = throws.IndexOutOfBoundsException
        isZero(0) = true
        isZero(7) = true

        # Promise 23: Returns whether it has an ENDLESS one
        0 has endless
        1 has -endless
        2 has power 160
        3 has quarter -160
        isEndless(0) = true
        isEndless(1) = true
        isEndless(2) = false
        isEndless(3) = false
        isEndless(4) = false

        # Promise 23: Throws IndexOutOfBoundsException if cell is not 0 to 7
        isEndless(-1) = throws.IndexOutOfBoundsException
        isEndless(8) = throws.IndexOutOfBoundsException
        isEndless(-2147483648) = throws.IndexOutOfBoundsException
        isEndless(2147483647) = throws.IndexOutOfBoundsException
        isEndless(0) = false
        isEndless(7) = false

        # Promise 24: Throws IndexOutOfBoundsException if cell is not 0 to 7
        whole(-1, 0) = throws.IndexOutOfBoundsException
        whole(8, 0) = throws.IndexOutOfBoundsException
        whole(-2147483648, 0) = throws.IndexOutOfBoundsException
        whole(2147483647, 0) = throws.IndexOutOfBoundsException
        whole(0, 0) = 0
        whole(7, 0) = 0

        # Promise 24: Throws IllegalArgumentException if k is not -62 to 90
        whole(0, -63) = throws.IllegalArgumentException
        whole(0, 91) = throws.IllegalArgumentException
        whole(0, -2147483648) = throws.IllegalArgumentException
        whole(0, 2147483647) = throws.IllegalArgumentException
        whole(0, -62) = 0
        whole(0, 90) = 0

        # Promise 24: Throws IllegalStateException if it is of the KIND 1, 5 or 6
        1 has endless
        2 has -endless
        5 has back -5
        6 has forth 1
        whole(1, -62) = throws.IllegalStateException
        whole(2, -62) = throws.IllegalStateException
        whole(5, -62) = throws.IllegalStateException
        whole(6, -62) = throws.IllegalStateException

        # Promise 24: or the WHOLE is not -2147483648 to 2147483647 (the least one)
        0 has quarter -2
        1 has lessened -128
        2 has quarter -3
        whole(0, 32) = -2147483648
        whole(0, 33) = throws.IllegalStateException
        whole(1, 31) = -2147483648
        whole(1, 32) = throws.IllegalStateException
        whole(2, 31) = -1610612736
        whole(2, 32) = throws.IllegalStateException

        # Promise 24: or the WHOLE is not -2147483648 to 2147483647 (just above the greatest one)
        0 has quarter 2
        1 has quarter 4
        2 has quarter 1
        whole(0, 31) = 1073741824
        whole(0, 32) = throws.IllegalStateException
        whole(1, 30) = 1073741824
        whole(1, 31) = throws.IllegalStateException
        whole(2, 32) = 1073741824
        whole(2, 33) = throws.IllegalStateException

        # Promise 24: or the WHOLE is not -2147483648 to 2147483647 (the greatest k that does)
        0 has power -160
        1 has power 160
        2 has lessened 144
        3 has lessened -1
        4 has logged -3
        5 has logged 1
        whole(0, 88) = 1314801958
        whole(0, 89) = throws.IllegalStateException
        whole(1, -27) = 1753756901
        whole(1, -26) = throws.IllegalStateException
        whole(2, -21) = 2055755399
        whole(2, -20) = throws.IllegalStateException
        whole(3, 33) = -1900086806
        whole(3, 34) = throws.IllegalStateException
        whole(4, 30) = -1488522236
        whole(4, 31) = throws.IllegalStateException
        whole(5, 33) = 1916788510
        whole(5, 34) = throws.IllegalStateException

        # Promise 25: Throws IndexOutOfBoundsException if cell is not 0 to 7
        0 has quarter 4
        7 has quarter 8
        height(-1) = throws.IndexOutOfBoundsException
        height(8) = throws.IndexOutOfBoundsException
        height(-2147483648) = throws.IndexOutOfBoundsException
        height(2147483647) = throws.IndexOutOfBoundsException
        height(0) = 0
        height(7) = 1

        # Promise 25: Throws IllegalStateException if it is a ZERO
        0 has -zero
        height(0) = throws.IllegalStateException
        height(1) = throws.IllegalStateException

        # Promise 25: Throws IllegalStateException if it is of the KIND 1, 5 or 6
        0 has endless
        1 has -endless
        2 has back -5
        3 has back -32
        4 has forth -3
        5 has forth 160
        height(0) = throws.IllegalStateException
        height(1) = throws.IllegalStateException
        height(2) = throws.IllegalStateException
        height(3) = throws.IllegalStateException
        height(4) = throws.IllegalStateException
        height(5) = throws.IllegalStateException

        # Promise 26: as a whole number (1073741824 to 2147483647)
        0 has quarter 4
        1 has quarter -128
        2 has lessened -128
        digits(0) = 1073741824
        digits(1) = 1073741824
        digits(2) = 2147483647

        # Promise 26: Returns the first 31 DIGITS of what it has (the ends of each KIND)
        0 has power -160
        1 has power 160
        2 has lessened 144
        3 has logged -3
        4 has logged 160
        5 has quarter 160
        6 has quarter -160
        7 has quarter 127
        digits(0) = 1314801958
        digits(1) = 1753756901
        digits(2) = 2055755399
        digits(3) = 1488522235
        digits(4) = 1993708822
        digits(5) = 1342177280
        digits(6) = 1342177280
        digits(7) = 2130706432

        # Promise 26: Throws IndexOutOfBoundsException if cell is not 0 to 7
        0 has quarter 4
        7 has quarter 8
        digits(-1) = throws.IndexOutOfBoundsException
        digits(8) = throws.IndexOutOfBoundsException
        digits(-2147483648) = throws.IndexOutOfBoundsException
        digits(2147483647) = throws.IndexOutOfBoundsException
        digits(0) = 1073741824
        digits(7) = 1073741824

        # Promise 26: Throws IllegalStateException if it is a ZERO
        0 has -zero
        digits(0) = throws.IllegalStateException
        digits(1) = throws.IllegalStateException

        # Promise 26: Throws IllegalStateException if it is of the KIND 1, 5 or 6
        0 has endless
        1 has -endless
        2 has back -5
        3 has back -32
        4 has forth -3
        5 has forth 160
        digits(0) = throws.IllegalStateException
        digits(1) = throws.IllegalStateException
        digits(2) = throws.IllegalStateException
        digits(3) = throws.IllegalStateException
        digits(4) = throws.IllegalStateException
        digits(5) = throws.IllegalStateException

        # Promise 27: Returns the first 32 of the 64 digits of what it has, as an int
        0 has quarter 3
        1 has quarter -3
        2 has -zero
        3 has -endless
        upper(0) = 1072168960
        upper(1) = -1075314688
        upper(2) = -2147483648
        upper(3) = -1048576
        upper(4) = 0

        # Promise 27: Throws IndexOutOfBoundsException if cell is not 0 to 7
        upper(-1) = throws.IndexOutOfBoundsException
        upper(8) = throws.IndexOutOfBoundsException
        upper(-2147483648) = throws.IndexOutOfBoundsException
        upper(2147483647) = throws.IndexOutOfBoundsException
        upper(0) = 0
        upper(7) = 0

        # Promise 27: Throws IllegalStateException if it is not of the KIND 0 or 1
        2 has power 1
        3 has lessened 1
        4 has logged 1
        5 has back -5
        6 has forth 1
        upper(2) = throws.IllegalStateException
        upper(3) = throws.IllegalStateException
        upper(4) = throws.IllegalStateException
        upper(5) = throws.IllegalStateException
        upper(6) = throws.IllegalStateException

        # Promise 28: Returns the last 32 of the 64 digits of what it has, as an int
        0 has quarter 159
        1 has quarter -159
        2 has -zero
        3 has -endless
        lower(0) = 0
        lower(1) = 0
        lower(2) = 0
        lower(3) = 0

        # Promise 28: Throws IndexOutOfBoundsException if cell is not 0 to 7
        lower(-1) = throws.IndexOutOfBoundsException
        lower(8) = throws.IndexOutOfBoundsException
        lower(-2147483648) = throws.IndexOutOfBoundsException
        lower(2147483647) = throws.IndexOutOfBoundsException
        lower(0) = 0
        lower(7) = 0

        # Promise 28: Throws IllegalStateException if it is not of the KIND 0 or 1
        2 has power 1
        3 has lessened 1
        4 has logged 1
        5 has back -5
        6 has forth 1
        lower(2) = throws.IllegalStateException
        lower(3) = throws.IllegalStateException
        lower(4) = throws.IllegalStateException
        lower(5) = throws.IllegalStateException
        lower(6) = throws.IllegalStateException

        # Promise 29: "zero" or "-zero" (BELOW), "endless" or "-endless" (BELOW)
        zero(1, true) = 1
        endless(2, false) = 1
        endless(3, true) = 1
        text(0) = zero
        text(1) = -zero
        text(2) = endless
        text(3) = -endless

        # Promise 29: q by its digits, with "-" ahead if it is below 0
        quarter(0, -160) = 1
        power(0, 1) = 1
        quarter(2, -128) = 1
        lessen(2, 3) = 1
        quarter(4, -3) = 1
        log(4, 5) = 1
        lessen(5, 6) = 1
        text(0) = quarter -160
        text(1) = power -160
        text(3) = lessened -128
        text(5) = logged -3
        text(6) = forth -3

        # Promise 29: q by its digits (one, two and three of them)
        quarter(0, 1) = 1
        quarter(1, 10) = 1
        quarter(2, 100) = 1
        quarter(3, -5) = 1
        lessen(3, 3) = 1
        log(3, 3) = 1
        text(0) = quarter 1
        text(1) = quarter 10
        text(2) = quarter 100
        text(3) = back -5

        # Promise 29: Throws IndexOutOfBoundsException if cell is not 0 to 7
        text(-1) = throws.IndexOutOfBoundsException
        text(8) = throws.IndexOutOfBoundsException
        text(-2147483648) = throws.IndexOutOfBoundsException
        text(2147483647) = throws.IndexOutOfBoundsException
        text(0) = zero
        text(7) = zero
        """;

    private static final String OF_TWO = """
        # Promise 30: -1 if what the first one has stands ahead, 1 if that of the other one does
        0 has quarter 159
        1 has quarter 160
        2 has -zero
        3 has -endless
        order(0, 1) = -1
        order(1, 0) = 1
        order(2, 7) = -1
        order(7, 2) = 1
        order(3, 2) = -1
        order(2, 3) = 1

        # Promise 30: 2 if they are NEAR
        0 has quarter -32
        1 has back -32
        2 has quarter -3
        3 has forth -3
        order(0, 1) = 2
        order(1, 0) = 2
        order(2, 3) = 2
        order(3, 2) = 2

        # Promise 30: otherwise 0
        0 has back -32
        1 has back -32
        order(0, 1) = 0
        order(0, 0) = 0
        order(6, 7) = 0

        # Promise 30: Throws IndexOutOfBoundsException if one is not 0 to 7
        order(-1, 0) = throws.IndexOutOfBoundsException
        order(8, 0) = throws.IndexOutOfBoundsException
        order(0, -1) = throws.IndexOutOfBoundsException
        order(0, 8) = throws.IndexOutOfBoundsException
        order(2147483647, -2147483648) = throws.IndexOutOfBoundsException
        order(0, 7) = 0
        order(7, 0) = 0

        # Promise 31: Returns whether what they have is ALIKE (both ZEROS are not, nor NEAR ones)
        0 has -zero
        2 has forth 160
        3 has quarter 160
        4 has forth 160
        isAlike(0, 1) = false
        isAlike(2, 3) = false
        isAlike(2, 4) = true
        isAlike(0, 0) = true
        isAlike(1, 7) = true

        # Promise 31: Throws IndexOutOfBoundsException if one is not 0 to 7
        isAlike(-1, 0) = throws.IndexOutOfBoundsException
        isAlike(8, 0) = throws.IndexOutOfBoundsException
        isAlike(0, -1) = throws.IndexOutOfBoundsException
        isAlike(0, 8) = throws.IndexOutOfBoundsException
        isAlike(2147483647, -2147483648) = throws.IndexOutOfBoundsException
        isAlike(0, 7) = true
        isAlike(7, 0) = true

        # Promise 32: Returns whether what they have is NEAR each other (not of q next to it)
        0 has back -6
        1 has quarter -6
        2 has quarter -5
        3 has quarter -7
        4 has quarter 6
        isNear(0, 1) = true
        isNear(0, 2) = false
        isNear(0, 3) = false
        isNear(0, 4) = false
        isNear(0, 0) = false

        # Promise 32: Throws IndexOutOfBoundsException if one is not 0 to 7
        isNear(-1, 0) = throws.IndexOutOfBoundsException
        isNear(8, 0) = throws.IndexOutOfBoundsException
        isNear(0, -1) = throws.IndexOutOfBoundsException
        isNear(0, 8) = throws.IndexOutOfBoundsException
        isNear(2147483647, -2147483648) = throws.IndexOutOfBoundsException
        isNear(0, 7) = false
        isNear(7, 0) = false

        # Promise 33: how many STEPS the one is from the other one (whichever comes first)
        0 has quarter -28
        1 has back -28
        2 has forth 28
        3 has quarter 28
        most(0, 1) = 53
        most(1, 0) = 53
        most(2, 3) = 2
        most(3, 2) = 2

        # Promise 33: Throws IndexOutOfBoundsException if one is not 0 to 7
        0 has quarter -5
        7 has back -5
        most(-1, 0) = throws.IndexOutOfBoundsException
        most(8, 0) = throws.IndexOutOfBoundsException
        most(0, -1) = throws.IndexOutOfBoundsException
        most(0, 8) = throws.IndexOutOfBoundsException
        most(2147483647, -2147483648) = throws.IndexOutOfBoundsException
        most(0, 7) = 2
        most(7, 0) = 2

        # Promise 33: Throws IllegalStateException if they are not NEAR
        0 has -zero
        2 has back -5
        3 has quarter -6
        4 has back -5
        5 has power -5
        most(0, 1) = throws.IllegalStateException
        most(2, 3) = throws.IllegalStateException
        most(2, 4) = throws.IllegalStateException
        most(2, 5) = throws.IllegalStateException
        most(2, 2) = throws.IllegalStateException

        # Promise 34: Returns whether the one is not more STEPS than most() tells (it is)
        0 has quarter -32
        1 has back -32
        2 has quarter -5
        3 has back -5
        4 has quarter -3
        5 has forth -3
        6 has quarter 160
        7 has forth 160
        isWithin(0, 1) = true
        isWithin(1, 0) = true
        isWithin(2, 3) = true
        isWithin(4, 5) = true
        isWithin(6, 7) = true
        isWithin(7, 6) = true

        # Promise 34: Throws IndexOutOfBoundsException if one is not 0 to 7
        0 has quarter -5
        7 has back -5
        isWithin(-1, 0) = throws.IndexOutOfBoundsException
        isWithin(8, 0) = throws.IndexOutOfBoundsException
        isWithin(0, -1) = throws.IndexOutOfBoundsException
        isWithin(0, 8) = throws.IndexOutOfBoundsException
        isWithin(2147483647, -2147483648) = throws.IndexOutOfBoundsException
        isWithin(0, 7) = true
        isWithin(7, 0) = true

        # Promise 34: Throws IllegalStateException if they are not NEAR
        0 has -zero
        2 has back -5
        3 has quarter -6
        4 has back -5
        5 has power -5
        isWithin(0, 1) = throws.IllegalStateException
        isWithin(2, 3) = throws.IllegalStateException
        isWithin(2, 4) = throws.IllegalStateException
        isWithin(2, 5) = throws.IllegalStateException
        isWithin(2, 2) = throws.IllegalStateException

        # Promise 35: Returns the first cell that has an ALIKE one (the first of all, itself)
        find(7, false) = 0
        find(0, false) = 0
        7 has quarter 1
        find(7, false) = 7
        find(6, false) = 0

        # Promise 35: or the last one (the last of all, itself)
        find(0, true) = 7
        find(7, true) = 7
        7 has quarter 1
        find(7, true) = 7
        find(0, true) = 6
        0 has quarter 2
        find(0, true) = 0

        # Promise 35: an ALIKE one (not a NEAR one, not the other ZERO)
        0 has quarter -5
        1 has back -5
        2 has quarter -5
        3 has back -5
        7 has -zero
        find(2, false) = 0
        find(0, true) = 2
        find(3, false) = 1
        find(1, true) = 3
        find(7, false) = 7
        find(4, true) = 6

        # Promise 35: Throws IndexOutOfBoundsException if cell is not 0 to 7
        find(-1, false) = throws.IndexOutOfBoundsException
        find(8, false) = throws.IndexOutOfBoundsException
        find(-1, true) = throws.IndexOutOfBoundsException
        find(8, true) = throws.IndexOutOfBoundsException
        find(-2147483648, true) = throws.IndexOutOfBoundsException
        find(2147483647, false) = throws.IndexOutOfBoundsException

        # Promise 36: Returns of how many cells (none, seven)
        rank(0) = 0
        rank(7) = 0
        row(-3, 1) = 7
        rank(0) = 0
        rank(7) = 7
        rank(3) = 3

        # Promise 36: stands ahead (NEAR and ALIKE ones do not, ZERO BELOW of ZERO ABOVE does)
        0 has quarter 9
        1 has forth 9
        2 has forth 9
        3 has -zero
        rank(0) = 5
        rank(1) = 5
        rank(2) = 5
        rank(3) = 0
        rank(4) = 1

        # Promise 36: Throws IndexOutOfBoundsException if cell is not 0 to 7
        rank(-1) = throws.IndexOutOfBoundsException
        rank(8) = throws.IndexOutOfBoundsException
        rank(-2147483648) = throws.IndexOutOfBoundsException
        rank(2147483647) = throws.IndexOutOfBoundsException
        rank(0) = 0
        rank(7) = 0

        # Promise 37: of SERIES 0 ZERO BELOW counts ahead of ZERO ABOVE
        0 has -zero
        before(0, 0) = 160
        before(0, 1) = 161

        # Promise 37: SERIES 2 and 3 have ZERO ABOVE alone
        0 has -zero
        2 has power -160
        before(2, 0) = 128
        before(2, 1) = 128
        before(2, 2) = 129
        before(3, 0) = 3
        before(3, 1) = 3
        before(3, 2) = 4

        # Promise 37: SERIES 1 has none (no ZERO)
        0 has -zero
        2 has power -160
        before(1, 0) = 0
        before(1, 1) = 0
        before(1, 2) = 0

        # Promise 37: stand ahead of what it has (NEAR ones do not, nor it itself)
        0 has back -32
        1 has quarter -32
        2 has forth 160
        3 has quarter -160
        before(0, 0) = 128
        before(0, 1) = 128
        before(0, 2) = 321
        before(0, 3) = 0

        # Promise 37: of ENDLESS ones all, or none
        0 has endless
        1 has -endless
        before(0, 0) = 322
        before(1, 0) = 321
        before(2, 0) = 273
        before(3, 0) = 164
        before(0, 1) = 0
        before(1, 1) = 0
        before(2, 1) = 0
        before(3, 1) = 0

        # Promise 37: all of a SERIES, none of a SERIES (by others than ENDLESS ones)
        0 has power 160
        1 has quarter 160
        2 has quarter -160
        3 has quarter -4
        before(0, 0) = 322
        before(2, 0) = 273
        before(3, 1) = 164
        before(3, 2) = 0
        before(2, 3) = 0
        before(1, 3) = 0

        # Promise 37: Throws IndexOutOfBoundsException if cell is not 0 to 7
        before(0, -1) = throws.IndexOutOfBoundsException
        before(3, 8) = throws.IndexOutOfBoundsException
        before(0, -2147483648) = throws.IndexOutOfBoundsException
        before(0, 2147483647) = throws.IndexOutOfBoundsException
        before(0, 0) = 161
        before(0, 7) = 161

        # Promise 37: Throws IllegalArgumentException if how is not 0 to 3
        before(-1, 0) = throws.IllegalArgumentException
        before(4, 7) = throws.IllegalArgumentException
        before(-2147483648, 0) = throws.IllegalArgumentException
        before(2147483647, 0) = throws.IllegalArgumentException
        before(0, 0) = 161
        before(3, 0) = 3
        """;

    private static final String WITHOUT_CELLS = """
        # Promise 38: of 0: ZERO ABOVE
        answer(1, 0, 0) = 1
        answer(2, 0, 0) = 0
        answer(3, 0, 0) = 0
        answer(2, 0, 90) = 0
        answer(3, 0, -62) = 0

        # Promise 38: Throws IllegalArgumentException if how is not 1 to 3
        answer(0, 1, 0) = throws.IllegalArgumentException
        answer(4, 1, 0) = throws.IllegalArgumentException
        answer(-2147483648, 1, 0) = throws.IllegalArgumentException
        answer(2147483647, 1, 0) = throws.IllegalArgumentException
        answer(1, 1, 0) = 1
        answer(3, 1, 0) = 0

        # Promise 38: q not one of that SERIES (1)
        answer(1, -161, 0) = throws.IllegalArgumentException
        answer(1, 161, -62) = throws.IllegalArgumentException
        answer(1, -2147483648, 0) = throws.IllegalArgumentException
        answer(1, 2147483647, 0) = throws.IllegalArgumentException
        answer(1, -160, 0) = 0
        answer(1, 160, -62) = 0

        # Promise 38: q not one of that SERIES (2)
        answer(2, -129, 0) = throws.IllegalArgumentException
        answer(2, 145, -62) = throws.IllegalArgumentException
        answer(2, -2147483648, 0) = throws.IllegalArgumentException
        answer(2, 2147483647, 0) = throws.IllegalArgumentException
        answer(2, -128, 0) = -1
        answer(2, 144, -62) = 0

        # Promise 38: q not one of that SERIES (3)
        answer(3, -4, 0) = throws.IllegalArgumentException
        answer(3, 161, 0) = throws.IllegalArgumentException
        answer(3, -2147483648, 0) = throws.IllegalArgumentException
        answer(3, 2147483647, 0) = throws.IllegalArgumentException
        answer(3, -3, 0) = -2
        answer(3, 160, 0) = 3

        # Promise 38: or k not -62 to 90
        answer(1, -160, -63) = throws.IllegalArgumentException
        answer(2, 0, 91) = throws.IllegalArgumentException
        answer(3, 0, -2147483648) = throws.IllegalArgumentException
        answer(3, 0, 2147483647) = throws.IllegalArgumentException
        answer(2, -1, -62) = -1
        answer(2, 0, 90) = 0

        # Promise 38: Throws IllegalStateException if the WHOLE is not -2147483648 to 2147483647 (the least one)
        answer(2, -128, 31) = -2147483648
        answer(2, -128, 32) = throws.IllegalStateException
        answer(3, -3, 31) = throws.IllegalStateException
        answer(2, -1, 90) = throws.IllegalStateException

        # Promise 38: Throws IllegalStateException if the WHOLE is not -2147483648 to 2147483647 (the greatest one)
        answer(1, 0, 30) = 1073741824
        answer(1, 0, 31) = throws.IllegalStateException
        answer(1, -1, 31) = 1672461946
        answer(1, -1, 32) = throws.IllegalStateException
        answer(1, 160, -27) = 1753756901
        answer(1, 160, -26) = throws.IllegalStateException
        answer(1, 160, 90) = throws.IllegalStateException
        answer(1, -160, 90) = throws.IllegalStateException

        # Promise 39: less than n by the power k of two (of itself none)
        below(0, -160, 2) = 0
        below(0, -159, 2) = 1
        below(0, 160, 2) = 321
        below(0, 161, 2) = 322

        # Promise 39: both ZEROS are 0 here
        below(0, 0, 0) = 160
        below(0, 0, 90) = 160
        below(0, 0, -62) = 160
        below(0, 1, 90) = 162
        below(0, -1, 90) = 160

        # Promise 39: ZERO ABOVE of the SERIES 2 and 3 is 0
        below(2, 0, 0) = 128
        below(2, 1, 90) = 129
        below(2, -1, 90) = 128
        below(3, 0, 0) = 3
        below(3, 1, 90) = 4
        below(3, -1, 90) = 3

        # Promise 39: of SERIES 1 none is 0, or less
        below(1, 0, -62) = 0
        below(1, 1, 90) = 0
        below(1, 2147483647, 90) = 0
        below(1, 1314801958, 88) = 0
        below(1, 1314801959, 88) = 1

        # Promise 39: n: any number (the greatest one, the least one)
        below(0, 2147483647, -62) = 322
        below(1, 2147483647, -62) = 321
        below(2, 2147483647, -62) = 273
        below(3, 2147483647, -62) = 164
        below(0, -2147483648, -62) = 0
        below(1, -2147483648, -62) = 0
        below(2, -2147483648, -62) = 0
        below(3, -2147483648, -62) = 0
        below(2, -2147483648, 31) = 0
        below(2, -2147483647, 31) = 43
        below(0, -2147483648, 31) = 156
        below(0, -2147483648, 90) = 160

        # Promise 39: less than n (just above the greatest one, and it itself not)
        below(1, 1753756901, -27) = 320
        below(1, 1753756902, -27) = 321
        below(2, 2055755399, -21) = 272
        below(2, 2055755400, -21) = 273
        below(3, 1993708822, 29) = 163
        below(3, 1993708823, 29) = 164

        # Promise 39: less than n (just above the least one, and it itself not)
        below(3, -1488522236, 30) = 0
        below(3, -1488522235, 30) = 1
        below(2, -1, 0) = 0
        below(1, 1, 0) = 160

        # Promise 39: Throws IllegalArgumentException if how is not 0 to 3
        below(-1, 1, 0) = throws.IllegalArgumentException
        below(4, 1, 0) = throws.IllegalArgumentException
        below(-2147483648, 1, 0) = throws.IllegalArgumentException
        below(2147483647, 1, 0) = throws.IllegalArgumentException
        below(0, 1, 0) = 165
        below(3, 1, 0) = 10

        # Promise 39: or k not -62 to 90
        below(0, 1, -63) = throws.IllegalArgumentException
        below(0, 1, 91) = throws.IllegalArgumentException
        below(0, 0, -2147483648) = throws.IllegalArgumentException
        below(0, 0, 2147483647) = throws.IllegalArgumentException
        below(0, 1, -62) = 322
        below(0, 1, 90) = 162

        # Promise 40: from each q on to the next one (all of each SERIES; it is)
        rises(0, -160, 160) = true
        rises(1, -160, 160) = true
        rises(2, -128, 144) = true
        rises(3, -3, 160) = true

        # Promise 40: with from and to the same there is nothing to look at, and it is so
        rises(0, -160, -160) = true
        rises(0, 0, 0) = true
        rises(1, 160, 160) = true
        rises(2, -128, -128) = true
        rises(3, -3, -3) = true
        rises(3, 160, 160) = true

        # Promise 40: Throws IllegalArgumentException if how is not 0 to 3
        rises(-1, 0, 1) = throws.IllegalArgumentException
        rises(4, 0, 1) = throws.IllegalArgumentException
        rises(-2147483648, 0, 1) = throws.IllegalArgumentException
        rises(2147483647, 0, 1) = throws.IllegalArgumentException

        # Promise 40: or from, to are not two of the SERIES (0)
        rises(0, -161, 0) = throws.IllegalArgumentException
        rises(0, 0, 161) = throws.IllegalArgumentException
        rises(0, -2147483648, 2147483647) = throws.IllegalArgumentException
        rises(0, 161, 161) = throws.IllegalArgumentException

        # Promise 40: or from, to are not two of the SERIES (1)
        rises(1, -161, 0) = throws.IllegalArgumentException
        rises(1, 0, 161) = throws.IllegalArgumentException
        rises(1, -2147483648, 2147483647) = throws.IllegalArgumentException
        rises(1, -161, -161) = throws.IllegalArgumentException

        # Promise 40: or from, to are not two of the SERIES (2)
        rises(2, -129, 0) = throws.IllegalArgumentException
        rises(2, 0, 145) = throws.IllegalArgumentException
        rises(2, -2147483648, 2147483647) = throws.IllegalArgumentException
        rises(2, 145, 145) = throws.IllegalArgumentException

        # Promise 40: or from, to are not two of the SERIES (3)
        rises(3, -4, 0) = throws.IllegalArgumentException
        rises(3, 0, 161) = throws.IllegalArgumentException
        rises(3, -2147483648, 2147483647) = throws.IllegalArgumentException
        rises(3, -4, -4) = throws.IllegalArgumentException

        # Promise 40: the first one not greater
        rises(0, 160, -160) = throws.IllegalArgumentException
        rises(1, 1, 0) = throws.IllegalArgumentException
        rises(2, -127, -128) = throws.IllegalArgumentException
        rises(3, 160, 159) = throws.IllegalArgumentException

        # Promise 41: so for all but 0: there it is not greater
        between(0) = false
        between(-1) = true
        between(1) = true
        between(-128) = true
        between(144) = true

        # Promise 41: Throws IllegalArgumentException if q is not -128 to 144
        between(-129) = throws.IllegalArgumentException
        between(145) = throws.IllegalArgumentException
        between(-2147483648) = throws.IllegalArgumentException
        between(2147483647) = throws.IllegalArgumentException

        # Promise 42: is less than the QUARTER (so for all but 0)
        lies(0) = false
        lies(-1) = true
        lies(1) = true
        lies(-3) = true
        lies(160) = true

        # Promise 42: Throws IllegalArgumentException if q is not -3 to 160
        lies(-4) = throws.IllegalArgumentException
        lies(161) = throws.IllegalArgumentException
        lies(-2147483648) = throws.IllegalArgumentException
        lies(2147483647) = throws.IllegalArgumentException

        # Promise 43: has all its 64 digits again (it has)
        undone(-4) = true
        undone(-1) = true
        undone(0) = true
        undone(1) = true
        undone(144) = true

        # Promise 43: Throws IllegalArgumentException if q is not -4 to 144
        undone(-5) = throws.IllegalArgumentException
        undone(145) = throws.IllegalArgumentException
        undone(-2147483648) = throws.IllegalArgumentException
        undone(2147483647) = throws.IllegalArgumentException

        # Promise 44: is not more STEPS from the QUARTER than section 3 tells (it is not)
        comesBack(-32) = true
        comesBack(-29) = true
        comesBack(-28) = true
        comesBack(-24) = true
        comesBack(-20) = true
        comesBack(-16) = true
        comesBack(-12) = true
        comesBack(-8) = true
        comesBack(-5) = true

        # Promise 44: Throws IllegalArgumentException if q is not -32 to -5
        comesBack(-33) = throws.IllegalArgumentException
        comesBack(-4) = throws.IllegalArgumentException
        comesBack(0) = throws.IllegalArgumentException
        comesBack(-2147483648) = throws.IllegalArgumentException
        comesBack(2147483647) = throws.IllegalArgumentException

        # Promise 45: is not more than 2 STEPS from it (it is not; from 0 it is none)
        comesForth(-3) = true
        comesForth(-1) = true
        comesForth(0) = true
        comesForth(1) = true
        comesForth(160) = true

        # Promise 45: Throws IllegalArgumentException if q is not -3 to 160
        comesForth(-4) = throws.IllegalArgumentException
        comesForth(161) = throws.IllegalArgumentException
        comesForth(-2147483648) = throws.IllegalArgumentException
        comesForth(2147483647) = throws.IllegalArgumentException

        # Promise 46: is not more than 2 STEPS from 1 (it is not)
        opposite(-160) = true
        opposite(-1) = true
        opposite(0) = true
        opposite(1) = true
        opposite(160) = true

        # Promise 46: Throws IllegalArgumentException if q is not -160 to 160
        opposite(-161) = throws.IllegalArgumentException
        opposite(161) = throws.IllegalArgumentException
        opposite(-2147483648) = throws.IllegalArgumentException
        opposite(2147483647) = throws.IllegalArgumentException
        """;

    private static final String THE_WHOLE = """
        # Promise 47: how many acts were done (each of the methods from quarter() to sort())
        quarter(0, 1) = 1
        zero(1, true) = 1
        endless(2, true) = 1
        row(1, 1) = 7
        wipe() = 8
        house(0) = 5
        copy(0, 1) = 0
        swap(0, 1) = 0
        step(0, 1) = 1
        turn(0) = 1
        power(0, 1) = 1
        house(0) = 10
        lessen(0, 1) = 1
        log(0, 1) = 1
        all(3) = 7
        greater(0, 1, 2) = 1
        lesser(0, 1, 2) = 0
        end(true, 3) = 0
        sort() = 0
        house(0) = 17

        # Promise 47: also if all stays as it was
        quarter(0, 0) = 0
        zero(0, false) = 0
        row(0, 0) = 0
        wipe() = 0
        copy(0, 0) = 0
        swap(0, 0) = 0
        step(0, 0) = 0
        lessen(0, 0) = 0
        log(0, 0) = 0
        house(0) = 9
        all(2) = 8
        greater(0, 0, 0) = 0
        lesser(0, 0, 0) = 0
        end(false, 0) = 0
        sort() = 0
        house(0) = 14

        # Promise 47: one that told -9, or threw, is none
        0 has -endless
        log(0, 0) = -9
        quarter(8, 0) = throws.IndexOutOfBoundsException
        row(0, 41) = throws.IllegalArgumentException
        house(0) = 1

        # Promise 47: what is only asked is no act
        kind(0) = 0
        of(0) = 0
        isBelow(0) = false
        isZero(0) = true
        isEndless(0) = false
        whole(0, 0) = 0
        upper(0) = 0
        lower(0) = 0
        text(0) = zero
        order(0, 1) = 0
        isAlike(0, 1) = true
        isNear(0, 1) = false
        find(0, true) = 7
        rank(0) = 0
        before(0, 0) = 161
        answer(1, 0, 0) = 1
        below(0, 0, 0) = 160
        rises(0, 0, 0) = true
        between(0) = false
        lies(0) = false
        undone(0) = true
        comesBack(-5) = true
        comesForth(0) = true
        opposite(0) = true
        knock() = 1
        isSound() = true
        house(0) = 0
        house(1) = 0

        # Promise 47: 1 how often an act told -9
        0 has -endless
        house(1) = 0
        step(0, 0) = -9
        log(0, 0) = -9
        row(160, 1) = -9
        house(1) = 3

        # Promise 47: 1 how often an act told -9 (one that threw, is none)
        0 has -endless
        log(0, 8) = throws.IndexOutOfBoundsException
        step(0, 321) = throws.IllegalArgumentException
        whole(0, 0) = throws.IllegalStateException
        house(1) = 0

        # Promise 47: 2 how often one knocked
        house(2) = 0
        knock() = 1
        knock() = 2
        house(2) = 2

        # Promise 47: 3 how many cells have a QUARTER (all, both ZEROS too)
        0 has -zero
        1 has quarter -160
        house(3) = 8

        # Promise 47: 3 how many cells have a QUARTER (none of the other KINDS)
        row(5, 1) = 8
        all(2) = 8
        house(3) = 0
        0 has endless
        1 has power 4
        2 has lessened 4
        3 has logged 4
        4 has back -5
        5 has forth 4
        house(3) = 0
        7 has quarter 4
        house(3) = 1

        # Promise 47: 4 how many pairs of two cells are NEAR (each pair once, whichever comes first)
        0 has quarter -32
        1 has back -32
        house(4) = 1
        6 has forth 160
        7 has quarter 160
        house(4) = 2

        # Promise 47: 4 how many pairs of two cells are NEAR (none)
        house(4) = 0
        0 has -zero
        1 has back -5
        2 has back -5
        3 has quarter -6
        house(4) = 0

        # Promise 47: 4 how many pairs of two cells are NEAR (as many as there can be)
        0 has quarter -5
        1 has back -5
        2 has quarter -5
        3 has back -5
        4 has back -5
        5 has quarter -5
        6 has back -5
        7 has quarter -5
        house(4) = 16

        # Promise 47: Throws IllegalArgumentException if what is not 0 to 4
        house(-1) = throws.IllegalArgumentException
        house(5) = throws.IllegalArgumentException
        house(-2147483648) = throws.IllegalArgumentException
        house(2147483647) = throws.IllegalArgumentException
        house(0) = 0
        house(4) = 0

        # Promise 48: Returns how often one knocked, with this
        knock() = 1
        knock() = 2
        knock() = 3
        house(2) = 3
        house(0) = 0

        # Promise 49: Returns whether all of this is so (a new object)
        isSound() = true

        # Promise 49: of q 0, 1 (what the ZEROS become)
        1 has -zero
        isSound() = true
        all(1) = 8
        isSound() = true
        all(2) = 8
        isSound() = true

        # Promise 49: what is a POWER is above 0, what is LESSENED above -1 (the ends)
        0 has power -160
        1 has power 160
        2 has lessened -128
        3 has lessened 144
        4 has lessened -1
        5 has lessened 1
        6 has -zero
        isSound() = true

        # Promise 49: what is LOGGED is less than its QUARTER (the ends)
        0 has logged -3
        1 has logged 160
        2 has logged -1
        3 has logged 1
        4 has endless
        5 has -endless
        isSound() = true

        # Promise 49: NEAR ones are as near as section 3 tells (the ends)
        0 has quarter -32
        1 has back -32
        2 has back -5
        3 has quarter -5
        4 has forth -3
        5 has quarter -3
        6 has quarter 160
        7 has forth 160
        isSound() = true

        # Promise 49: of each three, if the first one does not stand behind the second one (NEAR and ALIKE ones)
        0 has quarter 9
        1 has forth 9
        2 has quarter 9
        3 has quarter 10
        4 has forth 10
        5 has quarter 8
        6 has endless
        7 has -endless
        isSound() = true

        # Promise 50: A number d starts with 7896 (a new object)
        digest() = 9045339891350990433

        # Promise 50: which wraps around as a 64-bit integer (above 0, below 0)
        0 has -zero
        digest() = 2566810828276351578
        0 has quarter -4
        house(0) = 2
        digest() = -3496465203738697171

        # Promise 50: if it has a HEIGHT height() and digits(), otherwise one 0
        0 has back -32
        1 has endless
        2 has -endless
        3 has -zero
        4 has forth 160
        digest() = -6187398070286631902

        # Promise 50: if it is of the KIND 0 or 1 upper() and lower(), otherwise one 0
        0 has power -160
        1 has lessened -128
        2 has logged -3
        3 has back -5
        4 has forth -3
        digest() = 1025121009453574989

        # Promise 50: for each v in this order (each KIND once)
        0 has quarter -16
        1 has back -16
        2 has power 8
        3 has lessened -7
        4 has logged 9
        5 has forth 9
        6 has -endless
        7 has -zero
        house(0) = 15
        digest() = 5122611443735437963

        # Promise 50: house() of 0 to 4 (a refusal, a knock)
        row(160, 1) = -9
        knock() = 1
        digest() = 9045339891351943745
        """;

    static final String[] ALL = {
        DESCRIPTION, NUMBERS, BECOMING, NEARNESS_AND_ORDER, WHAT_COMES, WHAT_BECOMES, ASKED, OF_TWO,
        WITHOUT_CELLS, THE_WHOLE,
    };

    private Sentences() {
    }
}
