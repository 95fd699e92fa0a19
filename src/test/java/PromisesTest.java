/** A test or more for each promise of the document, in its order: ordinary, at its edges, wrong. */
public final class PromisesTest {
    private static final int[] NO_CELLS = {-1, 8, Integer.MIN_VALUE, Integer.MAX_VALUE};

    /** A call with one argument that is looked at. */
    interface With {
        Object answer(int value);
    }

    public static void main(String[] args) {
        whatComes();
        whatBecomes();
        choosing();
        asked();
        ofTwo();
        withoutCells();
        theWhole();
        Check.end("PromisesTest");
    }

    private static void refusesCells(String what, With call) {
        for (int cell : NO_CELLS) {
            Check.refusesCell(what + " with cell " + cell, () -> call.answer(cell));
        }
    }

    private static void refusesArguments(String what, With call, int... values) {
        for (int value : values) {
            Check.refusesArgument(what + " with " + value, () -> call.answer(value));
        }
        Check.refusesArgument(what + " with the least", () -> call.answer(Integer.MIN_VALUE));
        Check.refusesArgument(what + " with the greatest", () -> call.answer(Integer.MAX_VALUE));
    }

    private static void texts(String what, Quarterpowers x, String due) {
        StringBuilder got = new StringBuilder();
        for (int i = 0; i < 8; i++) {
            got.append(i == 0 ? "" : ", ").append(x.text(i));
        }
        Check.same(what, got.toString(), due);
    }

    /** quarter -16, back -16, power 8, lessened -7, logged 9, forth 9, -endless, -zero. */
    private static Quarterpowers oneOfEach() {
        Quarterpowers x = new Quarterpowers();
        x.quarter(0, -16);
        x.lessen(0, 1);
        x.log(1, 1);
        x.quarter(2, 8);
        x.power(2, 2);
        x.quarter(3, -7);
        x.lessen(3, 3);
        x.quarter(4, 9);
        x.log(4, 4);
        x.lessen(4, 5);
        x.endless(6, true);
        x.zero(7, true);
        texts("one of each", x, "quarter -16, back -16, power 8, lessened -7, logged 9, forth 9, -endless, -zero");
        return x;
    }

    private static final String EACH =
            "quarter -16, back -16, power 8, lessened -7, logged 9, forth 9, -endless, -zero";

    // ---- promises 1 to 10

    private static void whatComes() {
        aNewObject();
        quarter();
        zeroAndEndless();
        row();
        wipe();
        copyAndSwap();
        step();
        turn();
    }

    private static void aNewObject() {
        Quarterpowers x = new Quarterpowers();
        texts("1: new", x, "zero, zero, zero, zero, zero, zero, zero, zero");
        for (int what = 0; what <= 4; what++) {
            Check.same("1: house " + what, x.house(what), what == 3 ? 8 : 0);
        }
        x.quarter(0, 5);
        Check.same("1: another one is new", new Quarterpowers().text(0), "zero");
    }

    private static void quarter() {
        Quarterpowers x = new Quarterpowers();
        Check.same("2: another", x.quarter(0, 160), 1);
        Check.same("2: alike", x.quarter(0, 160), 0);
        Check.same("2: least", x.quarter(7, -160), 1);
        Check.same("2: zero above is there", x.quarter(1, 0), 0);
        x.zero(1, true);
        Check.same("2: zero above for below", x.quarter(1, 0), 1);
        x.power(0, 2);
        Check.same("2: of another kind", x.quarter(2, 160), 1);
        texts("2: texts", x, "quarter 160, zero, quarter 160, zero, zero, zero, zero, quarter -160");
        Check.same("2: acts", x.house(0), 8);
        refusesCells("2: quarter", cell -> x.quarter(cell, 161));
        refusesArguments("2: quarter", q -> x.quarter(0, q), 161, -161);
        texts("2: unchanged", x, "quarter 160, zero, quarter 160, zero, zero, zero, zero, quarter -160");
        Check.same("2: what throws is no act", x.house(0) + 1000 * x.house(1), 8);
    }

    private static void zeroAndEndless() {
        Quarterpowers x = new Quarterpowers();
        Check.same("3: alike", x.zero(3, false), 0);
        Check.same("3: below", x.zero(3, true), 1);
        Check.same("3: below again", x.zero(3, true), 0);
        Check.same("3: above", x.zero(4, true) + x.zero(4, false), 2);
        Check.same("4: above", x.endless(0, false), 1);
        Check.same("4: above again", x.endless(0, false), 0);
        Check.same("4: below", x.endless(0, true), 1);
        Check.same("4: below again", x.endless(0, true), 0);
        Check.same("4: above elsewhere", x.endless(7, false), 1);
        texts("3, 4: texts", x, "-endless, zero, zero, -zero, zero, zero, zero, endless");
        Check.same("3, 4: acts", x.house(0), 10);
        refusesCells("3: zero", cell -> x.zero(cell, true));
        refusesCells("4: endless", cell -> x.endless(cell, false));
        Check.same("3, 4: acts then", x.house(0), 10);
    }

    private static void row() {
        Quarterpowers x = new Quarterpowers();
        Check.same("5: all but one", x.row(0, 5), 7);
        texts("5: texts", x, "zero, quarter 5, quarter 10, quarter 15, quarter 20, quarter 25, quarter 30, quarter 35");
        Check.same("5: the same", x.row(0, 5), 0);
        Check.same("5: down to the least", x.row(120, -40), 8);
        Check.same("5: the least", x.text(7), "quarter -160");
        Check.same("5: up to the greatest, cell 3 stays", x.row(-120, 40), 7);
        Check.same("5: the greatest", x.text(7), "quarter 160");
        Check.same("5: too great", x.row(-119, 40), -9);
        Check.same("5: too small", x.row(119, -40), -9);
        Check.same("5: too great from the end", x.row(160, 1), -9);
        Check.same("5: unchanged", x.text(0), "quarter -120");
        x.zero(0, true);
        Check.same("5: zero above comes", x.row(0, 0), 7);
        Check.same("5: acts", x.house(0), 6);
        Check.same("5: refused", x.house(1), 3);
        refusesArguments("5: from", from -> x.row(from, 0), 161, -161);
        refusesArguments("5: by", by -> x.row(0, by), 41, -41);
        Check.same("5: acts then", x.house(0) + x.house(1), 9);
    }

    private static void wipe() {
        Quarterpowers x = new Quarterpowers();
        Check.same("6: none", x.wipe(), 0);
        x.quarter(2, 3);
        x.zero(5, true);
        x.endless(6, true);
        Check.same("6: three", x.wipe(), 3);
        texts("6: texts", x, "zero, zero, zero, zero, zero, zero, zero, zero");
        Check.same("6: acts", x.house(0), 5);
    }

    private static void copyAndSwap() {
        Quarterpowers x = oneOfEach();
        int acts = x.house(0);
        Check.same("7: onto itself", x.copy(2, 2), 0);
        Check.same("7: another", x.copy(2, 0), 1);
        Check.same("7: alike", x.copy(2, 0), 0);
        Check.same("7: near is another one", x.copy(4, 3) + x.copy(5, 4), 2);
        texts("7: texts", x, "power 8, back -16, power 8, logged 9, forth 9, forth 9, -endless, -zero");
        Check.same("8: with itself", x.swap(6, 6), 0);
        Check.same("8: of alike ones", x.swap(0, 2), 0);
        Check.same("8: of others", x.swap(6, 1), 1);
        texts("8: texts", x, "power 8, -endless, power 8, logged 9, forth 9, forth 9, back -16, -zero");
        Check.same("7, 8: acts", x.house(0) - acts, 8);
        refusesCells("7: from", cell -> x.copy(cell, 0));
        refusesCells("7: into", cell -> x.copy(0, cell));
        refusesCells("8: one", cell -> x.swap(cell, 0));
        refusesCells("8: other", cell -> x.swap(0, cell));
        texts("7, 8: unchanged", x, "power 8, -endless, power 8, logged 9, forth 9, forth 9, back -16, -zero");
        Check.same("7, 8: acts then", x.house(0) - acts, 8);
    }

    private static void step() {
        Quarterpowers x = oneOfEach();
        int acts = x.house(0);
        Check.same("9: by 16", x.step(0, 16), 1);
        Check.same("9: to zero", x.text(0), "zero");
        Check.same("9: zero by 0", x.step(0, 0), 0);
        Check.same("9: zero below by 0", x.step(7, 0), 1);
        Check.same("9: then above", x.text(7), "zero");
        x.zero(7, true);
        Check.same("9: zero below by -160", x.step(7, -160), 1);
        Check.same("9: by 320", x.step(7, 320), 1);
        Check.same("9: then the greatest", x.text(7), "quarter 160");
        Check.same("9: by -320", x.step(7, -320), 1);
        Check.same("9: then the least", x.text(7), "quarter -160");
        Check.same("9: acts", x.house(0) - acts, 7);
        Check.same("9: below the least", x.step(7, -1), -9);
        Check.same("9: above the greatest", x.step(0, 161), -9);
        for (int cell = 1; cell <= 6; cell++) {
            Check.same("9: no quarter in " + cell, x.step(cell, 0), -9);
        }
        Check.same("9: refused", x.house(1), 8);
        refusesCells("9: step", cell -> x.step(cell, 321));
        refusesArguments("9: step", by -> x.step(1, by), 321, -321);
        Check.same("9: exceptions are not counted", x.house(0) - acts + x.house(1), 15);
        texts("9: texts", x, "zero, back -16, power 8, lessened -7, logged 9, forth 9, -endless, quarter -160");
    }

    private static void turn() {
        Quarterpowers x = oneOfEach();
        int acts = x.house(0);
        Check.same("10: quarter", x.turn(0), 1);
        Check.same("10: endless", x.turn(6), 1);
        Check.same("10: zero", x.turn(7), 1);
        texts("10: texts", x, "quarter 16, back -16, power 8, lessened -7, logged 9, forth 9, endless, zero");
        for (int cell = 1; cell <= 5; cell++) {
            Check.same("10: neither in " + cell, x.turn(cell), -9);
        }
        Check.same("10: back", x.turn(0) + x.turn(6) + x.turn(7), 3);
        texts("10: texts then", x, EACH);
        Check.same("10: acts", x.house(0) - acts, 6);
        Check.same("10: refused", x.house(1), 5);
        refusesCells("10: turn", cell -> x.turn(cell));
    }

    // ---- promises 11 to 14

    private static void whatBecomes() {
        power();
        lessen();
        log();
        all();
        for (int how = 1; how <= 3; how++) {
            int way = how;
            Quarterpowers x = oneOfEach();
            refusesCells((10 + how) + ": from", cell -> change(x, way, cell, 0));
            refusesCells((10 + how) + ": into", cell -> change(x, way, 0, cell));
            texts((10 + how) + ": unchanged", x, EACH);
            Check.same((10 + how) + ": not counted", x.house(0) + x.house(1), 12);
        }
    }

    private static int change(Quarterpowers x, int how, int cell, int into) {
        return how == 1 ? x.power(cell, into) : how == 2 ? x.lessen(cell, into) : x.log(cell, into);
    }

    /** What all eight become, told into cell 7, that of cell 7 itself last; "-" for what can not. */
    private static void becomes(int how, String due) {
        StringBuilder got = new StringBuilder();
        for (int i = 0; i < 8; i++) {
            Quarterpowers x = oneOfEach();
            int told = change(x, how, i, i);
            boolean isCounted = told == -9 ? x.house(1) == 1 && x.house(0) == 12 : x.house(0) == 13 && x.house(1) == 0;
            Check.so("the act of cell " + i + " is counted", isCounted);
            got.append(i == 0 ? "" : ", ").append(told == -9 ? "-" : x.text(i) + " " + told);
        }
        Check.same((10 + how) + ": becomes", got.toString(), due);
    }

    private static void quarterBecomes(int how, int q, String due) {
        Quarterpowers x = new Quarterpowers();
        x.quarter(0, q);
        int told = change(x, how, 0, 5);
        Check.same((10 + how) + ": of " + q, told + " " + x.text(5), due);
        Check.same((10 + how) + ": what it was of stays", x.of(0), q);
    }

    private static void endlessBecomes(int how, boolean isBelow, String due) {
        Quarterpowers x = new Quarterpowers();
        x.endless(0, isBelow);
        x.quarter(5, 1);
        int told = change(x, how, 0, 5);
        Check.same((10 + how) + ": of endless", told + " " + x.text(5), due);
    }

    private static void power() {
        becomes(1, "power -16 1, -, -, -, -, -, zero 1, quarter 4 1");
        quarterBecomes(1, 160, "1 power 160");
        quarterBecomes(1, -160, "1 power -160");
        quarterBecomes(1, 0, "1 quarter 4");
        endlessBecomes(1, false, "1 endless");
        endlessBecomes(1, true, "1 zero");
        Quarterpowers x = oneOfEach();
        Check.same("11: alike there", x.power(0, 0) + x.power(7, 0) + x.power(7, 0), 2);
        Check.same("11: a power is above", x.power(3, 3), -9);
        x.quarter(0, -5);
        x.power(0, 0);
        Check.so("11: sign", !x.isBelow(0));
    }

    private static void lessen() {
        becomes(2, "lessened -16 1, -, -, -, forth 9 1, -, quarter -4 1, -zero 0");
        quarterBecomes(2, 144, "1 lessened 144");
        quarterBecomes(2, 145, "-9 zero");
        quarterBecomes(2, -128, "1 lessened -128");
        quarterBecomes(2, -129, "-9 zero");
        quarterBecomes(2, 0, "0 zero");
        endlessBecomes(2, false, "1 endless");
        endlessBecomes(2, true, "1 quarter -4");
        Quarterpowers x = oneOfEach();
        Check.same("12: alike there", x.lessen(4, 5), 0);
        x.quarter(0, -3);
        Check.same("12: forth of a logged one below", x.log(0, 0) + x.lessen(0, 0), 2);
        Check.same("12: text", x.text(0), "forth -3");
        Check.so("12: sign", x.isBelow(0));
    }

    private static void log() {
        becomes(3, "-, -, -, back -7 1, -, -, -, -zero 0");
        quarterBecomes(3, 160, "1 logged 160");
        quarterBecomes(3, -3, "1 logged -3");
        quarterBecomes(3, -4, "1 -endless");
        quarterBecomes(3, -5, "-9 zero");
        quarterBecomes(3, 0, "0 zero");
        endlessBecomes(3, false, "1 endless");
        endlessBecomes(3, true, "-9 quarter 1");
        loggedLessened(144, "1 quarter 144");
        loggedLessened(1, "1 quarter 1");
        loggedLessened(-4, "1 quarter -4");
        loggedLessened(-5, "1 back -5");
        loggedLessened(-32, "1 back -32");
        loggedLessened(-33, "-9 zero");
    }

    private static void loggedLessened(int q, String due) {
        Quarterpowers x = new Quarterpowers();
        x.quarter(0, q);
        x.lessen(0, 0);
        int told = x.log(0, 1);
        Check.same("13: of the lessened one of " + q, told + " " + x.text(1), due);
    }

    private static void all() {
        Quarterpowers x = oneOfEach();
        Check.same("14: powered", x.all(1), 3);
        texts("14: texts, powered", x,
                "power -16, back -16, power 8, lessened -7, logged 9, forth 9, zero, quarter 4");
        x = oneOfEach();
        Check.same("14: lessened, alike counts", x.all(2), 4);
        texts("14: texts, lessened", x,
                "lessened -16, back -16, power 8, lessened -7, forth 9, forth 9, quarter -4, -zero");
        x = oneOfEach();
        Check.same("14: logged", x.all(3), 2);
        texts("14: texts, logged", x,
                "quarter -16, back -16, power 8, back -7, logged 9, forth 9, -endless, -zero");
        x.row(5, 1);
        x.all(1);
        Check.same("14: none", x.all(2), 0);
        Check.same("14: an act, whatever could", x.house(0), 16);
        Check.same("14: never refused", x.house(1), 0);
        Quarterpowers y = x;
        refusesArguments("14: all", how -> y.all(how), 0, 4, -1);
        Check.same("14: acts then", x.house(0), 16);
    }

    // ---- promises 15 to 18

    private static void choosing() {
        greaterAndLesser();
        end();
        sort();
    }

    private static void greaterAndLesser() {
        Quarterpowers x = oneOfEach();
        int acts = x.house(0);
        // power 8 is 7.38.., forth 9 is 2.25
        Check.same("15: the first", x.greater(2, 5, 0) + " " + x.text(0), "1 power 8");
        Check.same("15: the other", x.greater(5, 2, 0) + " " + x.text(0), "0 power 8");
        Check.same("16: the other", x.lesser(2, 5, 0) + " " + x.text(0), "1 forth 9");
        Check.same("16: the first", x.lesser(5, 2, 0) + " " + x.text(0), "0 forth 9");
        Check.same("15, 16: acts", x.house(0) - acts, 4);
        x.quarter(0, 9);
        Check.same("15: near, the first", x.greater(0, 5, 1) + " " + x.text(1), "1 quarter 9");
        Check.same("15: near, the other way", x.greater(5, 0, 1) + " " + x.text(1), "1 forth 9");
        Check.same("16: near, the first", x.lesser(0, 5, 1) + " " + x.text(1), "1 quarter 9");
        Check.same("16: near, the other way", x.lesser(5, 0, 1) + " " + x.text(1), "1 forth 9");
        x.zero(0, false);
        Check.same("15: zeros", x.greater(0, 7, 1) + x.text(1) + x.greater(7, 0, 1) + x.text(1), "1zero0zero");
        Check.same("16: zeros", x.lesser(0, 7, 1) + x.text(1) + x.lesser(7, 0, 1) + x.text(1), "1-zero0-zero");
        Check.same("15: endless below", x.greater(6, 3, 1) + x.text(1), "1lessened -7");
        Check.same("16: endless below", x.lesser(3, 6, 1) + x.text(1), "1-endless");
        refusesCells("15: one", cell -> x.greater(cell, 0, 0));
        refusesCells("15: other", cell -> x.greater(0, cell, 0));
        refusesCells("15: into", cell -> x.greater(0, 0, cell));
        refusesCells("16: one", cell -> x.lesser(cell, 0, 0));
        refusesCells("16: other", cell -> x.lesser(0, cell, 0));
        refusesCells("16: into", cell -> x.lesser(0, 0, cell));
    }

    private static void end() {
        Quarterpowers x = oneOfEach();
        Check.same("17: greatest", x.end(true, 3) + " " + x.text(3), "1 power 8");
        Check.same("17: greatest again", x.end(true, 3), 0);
        Check.same("17: least", x.end(false, 4) + " " + x.text(4), "1 -endless");
        Check.same("17: acts", x.house(0), 15);
        x.row(-7, 1);
        x.quarter(1, -7);
        x.lessen(1, 1);
        x.log(1, 1);
        texts("17: near ones", x,
                "quarter -7, back -7, quarter -5, quarter -4, quarter -3, quarter -2, quarter -1, zero");
        Check.same("17: the smaller cell", x.end(false, 5) + " " + x.text(5), "1 quarter -7");
        x.swap(0, 1);
        Check.same("17: now the other one", x.end(false, 5) + " " + x.text(5), "1 back -7");
        x.zero(6, true);
        Check.same("17: zero above", x.end(true, 5) + " " + x.text(5), "1 zero");
        refusesCells("17: end", cell -> x.end(true, cell));
    }

    private static void sort() {
        Quarterpowers x = oneOfEach();
        Check.same("18: changed, cell 3 stays", x.sort(), 7);
        // lessened -7 is -0.82.., logged 9 is 1.17..
        texts("18: sorted", x, "-endless, quarter -16, back -16, lessened -7, -zero, logged 9, forth 9, power 8");
        Check.same("18: again", x.sort(), 0);
        x.swap(1, 2);
        Check.same("18: near ones stay as they stand", x.sort(), 0);
        x.zero(5, false);
        x.quarter(6, 0);
        x.zero(7, true);
        Check.same("18: zeros", x.sort(), 2);
        texts("18: sorted zeros", x, "-endless, back -16, quarter -16, lessened -7, -zero, -zero, zero, zero");
        Check.same("18: acts", x.house(0), 20);
        x.row(14, -2);
        Check.same("18: turned round", x.sort(), 8);
        texts("18: turned texts", x,
                "zero, quarter 2, quarter 4, quarter 6, quarter 8, quarter 10, quarter 12, quarter 14");
    }

    // ---- promises 19 to 29

    private static void asked() {
        Quarterpowers x = oneOfEach();
        int[] kinds = {0, 5, 2, 3, 4, 6, 1, 0};
        int[] qs = {-16, -16, 8, -7, 9, 9, -1000, 0};
        boolean[] isBelow = {true, true, false, true, false, false, true, true};
        for (int i = 0; i < 8; i++) {
            Check.same("19: kind " + i, x.kind(i), kinds[i]);
            Check.same("20: of " + i, x.of(i), qs[i]);
            Check.same("21: isBelow " + i, x.isBelow(i), isBelow[i]);
            Check.same("22: isZero " + i, x.isZero(i), i == 7);
            Check.same("23: isEndless " + i, x.isEndless(i), i == 6);
        }
        x.endless(6, false);
        x.zero(7, false);
        Check.same("20: of endless above", x.of(6), 1000);
        Check.so("21: endless above", !x.isBelow(6) && x.isEndless(6));
        Check.so("21: zero above", !x.isBelow(7) && x.isZero(7));
        refusesCells("19: kind", cell -> x.kind(cell));
        refusesCells("20: of", cell -> x.of(cell));
        refusesCells("21: isBelow", cell -> x.isBelow(cell));
        refusesCells("22: isZero", cell -> x.isZero(cell));
        refusesCells("23: isEndless", cell -> x.isEndless(cell));
        whole();
        heightAndDigits();
        upperAndLower();
        text();
    }

    private static void whole() {
        Quarterpowers x = oneOfEach();
        Check.same("24: quarter", x.whole(0, 0), -4);
        Check.same("24: quarter by -2", x.whole(0, -2), -1);
        Check.same("24: quarter by -3 down", x.whole(0, -3), -1);
        Check.same("24: quarter by -62", x.whole(0, -62), -1);
        Check.same("24: quarter by 29", x.whole(0, 29), Integer.MIN_VALUE);
        Check.refusesState("24: quarter by 30", () -> x.whole(0, 30));
        Check.same("24: e * e", x.whole(2, 0), 7);
        Check.same("24: e * e in 1024ths", x.whole(2, 10), 7566);
        Check.same("24: e * e by -62", x.whole(2, -62), 0);
        Check.refusesState("24: e * e by 90", () -> x.whole(2, 90));
        Check.same("24: lessened", x.whole(3, 0), -1);
        Check.same("24: logged", x.whole(4, 20), 1235909);
        Check.same("24: zero", x.whole(7, 90) + x.whole(7, -62), 0);
        x.quarter(7, 4);
        Check.refusesState("24: 1 by 31", () -> x.whole(7, 31));
        Check.same("24: 1 by 30", x.whole(7, 30), 1 << 30);
        x.quarter(7, 3);
        Check.same("24: 3/4", x.whole(7, 0), 0);
        x.quarter(7, -3);
        Check.same("24: -3/4", x.whole(7, 0), -1);
        int[] none = {1, 5, 6};
        for (int cell : none) {
            Check.refusesState("24: no whole of cell " + cell, () -> x.whole(cell, 0));
            Check.refusesArgument("24: k goes ahead", () -> x.whole(cell, 91));
        }
        refusesCells("24: whole", cell -> x.whole(cell, 91));
        refusesArguments("24: whole", k -> x.whole(0, k), 91, -63);
    }

    private static void heightAndDigits() {
        Quarterpowers x = oneOfEach();
        Check.same("25: of -4", x.height(0), 2);
        Check.same("26: of -4", x.digits(0), 1 << 30);
        Check.same("25: of e * e", x.height(2), 2);
        Check.same("26: of e * e", x.digits(2), 1983484643);
        Check.same("25: of -0.82", x.height(3), -1);
        Check.same("25: of 1.17", x.height(4), 0);
        x.quarter(0, -128);
        x.lessen(0, 0);
        Check.same("25: just under 1", x.height(0), -1);
        Check.same("26: just under 1", x.digits(0), Integer.MAX_VALUE);
        x.quarter(0, -160);
        x.power(0, 0);
        Check.same("25: the least", x.height(0), -58);
        Check.same("26: the least", x.digits(0), 1314801958);
        x.quarter(0, 1);
        Check.same("25: a quarter", x.height(0), -2);
        int[] none = {1, 5, 6, 7};
        for (int cell : none) {
            Check.refusesState("25: none of cell " + cell, () -> x.height(cell));
            Check.refusesState("26: none of cell " + cell, () -> x.digits(cell));
        }
        refusesCells("25: height", cell -> x.height(cell));
        refusesCells("26: digits", cell -> x.digits(cell));
    }

    private static void upperAndLower() {
        Quarterpowers x = oneOfEach();
        for (int q = -160; q <= 160; q++) {
            Quarterpowers y = new Quarterpowers();
            y.quarter(0, q);
            long due = Double.doubleToLongBits(q / 4.0);
            Check.same("27: of " + q, y.upper(0), (int) (due >>> 32));
            Check.same("28: of " + q, y.lower(0), (int) due);
        }
        Check.same("27: endless below", x.upper(6), 0xfff00000);
        Check.same("27: zero below", x.upper(7), 0x80000000);
        Check.same("28: endless, zero", x.lower(6) | x.lower(7), 0);
        x.turn(6);
        x.turn(7);
        Check.same("27: endless above", x.upper(6), 0x7ff00000);
        Check.same("27: zero above", x.upper(7), 0);
        for (int i = 1; i <= 5; i++) {
            int cell = i;
            Check.refusesState("27: none of cell " + i, () -> x.upper(cell));
            Check.refusesState("28: none of cell " + i, () -> x.lower(cell));
        }
        refusesCells("27: upper", cell -> x.upper(cell));
        refusesCells("28: lower", cell -> x.lower(cell));
    }

    private static void text() {
        Quarterpowers x = oneOfEach();
        texts("29: each", x, EACH);
        x.turn(6);
        x.turn(7);
        x.quarter(0, 160);
        Check.same("29: above", x.text(6) + x.text(7) + x.text(0), "endlesszeroquarter 160");
        refusesCells("29: text", cell -> x.text(cell));
    }

    // ---- promises 30 to 37

    private static void ofTwo() {
        orderAlikeNear();
        mostAndWithin();
        find();
        rankAndBefore();
    }

    private static void orderAlikeNear() {
        Quarterpowers x = oneOfEach();
        // -endless, then -4 twice, lessened -7, -zero, logged 9, forth 9, power 8
        int[] place = {1, 1, 6, 2, 4, 5, 0, 3};
        for (int i = 0; i < 8; i++) {
            for (int j = 0; j < 8; j++) {
                boolean isNear = i + j == 1;
                int due = isNear ? 2 : Integer.compare(place[i], place[j]);
                Check.same("30: order " + i + " " + j, x.order(i, j), due);
                Check.same("31: isAlike " + i + " " + j, x.isAlike(i, j), i == j);
                Check.same("32: isNear " + i + " " + j, x.isNear(i, j), isNear);
            }
        }
        x.copy(2, 3);
        Check.same("30: alike in other cells", x.order(2, 3), 0);
        Check.so("31: alike in other cells", x.isAlike(2, 3));
        x.zero(3, false);
        Check.same("30: zeros", x.order(7, 3) * 10 + x.order(3, 7), -9);
        Check.so("31, 32: zeros are neither", !x.isAlike(7, 3) && !x.isNear(7, 3));
        x.endless(3, false);
        Check.same("30: endless", x.order(6, 3) * 10 + x.order(3, 6), -9);
        Check.same("30: endless and any", x.order(3, 2) * 10 + x.order(0, 3), 9);
        refusesCells("30: one", cell -> x.order(cell, 0));
        refusesCells("30: other", cell -> x.order(0, cell));
        refusesCells("31: one", cell -> x.isAlike(cell, 0));
        refusesCells("31: other", cell -> x.isAlike(0, cell));
        refusesCells("32: one", cell -> x.isNear(cell, 0));
        refusesCells("32: other", cell -> x.isNear(0, cell));
    }

    private static void mostAndWithin() {
        for (int q = -32; q <= -5; q++) {
            Quarterpowers x = new Quarterpowers();
            x.quarter(0, q);
            x.lessen(0, 1);
            x.log(1, 1);
            int due = q >= -12 ? 2 : q >= -16 ? 5 : q >= -20 ? 6 : q >= -24 ? 10 : q >= -28 ? 53 : 124;
            Check.same("33: back " + q, x.most(0, 1) + 1000 * x.most(1, 0), 1001 * due);
            Check.so("34: back " + q, x.isWithin(0, 1) && x.isWithin(1, 0));
        }
        for (int q = -3; q <= 160; q++) {
            if (q != 0) {
                Quarterpowers x = new Quarterpowers();
                x.quarter(0, q);
                x.log(0, 1);
                x.lessen(1, 1);
                Check.same("33: forth " + q, x.most(0, 1) + 1000 * x.most(1, 0), 2002);
                Check.so("34: forth " + q, x.isWithin(0, 1) && x.isWithin(1, 0));
            }
        }
        Quarterpowers x = oneOfEach();
        for (int i = 0; i < 8; i++) {
            int cell = i;
            Check.refusesState("33: not near " + i, () -> x.most(2, cell));
            Check.refusesState("34: not near " + i, () -> x.isWithin(2, cell));
        }
        refusesCells("33: one", cell -> x.most(cell, 0));
        refusesCells("33: other", cell -> x.most(0, cell));
        refusesCells("34: one", cell -> x.isWithin(cell, 0));
        refusesCells("34: other", cell -> x.isWithin(0, cell));
    }

    private static void find() {
        Quarterpowers x = oneOfEach();
        for (int i = 0; i < 8; i++) {
            Check.same("35: itself " + i, x.find(i, false) + 10 * x.find(i, true), 11 * i);
        }
        x.copy(4, 1);
        x.copy(4, 6);
        Check.same("35: first", x.find(4, false), 1);
        Check.same("35: last", x.find(4, true), 6);
        Check.same("35: first of the last", x.find(6, false), 1);
        Check.same("35: last of the first", x.find(1, true), 6);
        refusesCells("35: find", cell -> x.find(cell, true));
        refusesCells("35: find first", cell -> x.find(cell, false));
    }

    private static void rankAndBefore() {
        Quarterpowers x = oneOfEach();
        int[] ranks = {1, 1, 7, 3, 5, 6, 0, 4};
        for (int i = 0; i < 8; i++) {
            Check.same("36: rank " + i, x.rank(i), ranks[i]);
        }
        Check.same("37: 0 of -4", x.before(0, 0), 144);
        Check.same("37: 0 of back -4", x.before(0, 1), 144);
        Check.same("37: 0 of e * e", x.before(0, 2), 160 + 2 + 29);
        Check.same("37: 0 of -zero", x.before(0, 7), 160);
        Check.same("37: 0 of forth 9", x.before(0, 5), 160 + 2 + 8);
        Check.same("37: 1 of power 8", x.before(1, 2), 168);
        Check.same("37: 1 of -zero", x.before(1, 7), 0);
        Check.same("37: 1 of forth 9 (e to the power of 3/4 is 2.11..)", x.before(1, 5), 164);
        Check.same("37: 2 of lessened -7", x.before(2, 3), 121);
        Check.same("37: 2 of -zero", x.before(2, 7), 128);
        Check.same("37: 3 of logged 9", x.before(3, 4), 12);
        Check.same("37: 3 of -zero", x.before(3, 7), 3);
        x.turn(7);
        Check.same("37: 0 of zero", x.before(0, 7), 161);
        Check.same("37: 1 to 3 of zero", x.before(1, 7) + 1000 * x.before(2, 7) + x.before(3, 7), 128003);
        for (int how = 0; how <= 3; how++) {
            Check.same("37: endless below", x.before(how, 6), 0);
        }
        x.turn(6);
        int[] sizes = {322, 321, 273, 164};
        for (int how = 0; how <= 3; how++) {
            Check.same("37: endless above", x.before(how, 6), sizes[how]);
        }
        x.quarter(0, 4);
        Check.same("37: 1 of 1", x.before(1, 0), 160);
        refusesCells("36: rank", cell -> x.rank(cell));
        refusesCells("37: before", cell -> x.before(4, cell));
        refusesArguments("37: before", how -> x.before(how, 0), -1, 4);
    }

    // ---- promises 38 to 46

    private static void withoutCells() {
        answer();
        below();
        rises();
        Quarterpowers x = new Quarterpowers();
        for (int q = -128; q <= 144; q++) {
            Check.same("41: between " + q, x.between(q), q != 0);
        }
        refusesArguments("41: between", q -> x.between(q), -129, 145);
        Quarterpowers y = new Quarterpowers();
        for (int q = -3; q <= 160; q++) {
            Check.same("42: lies " + q, y.lies(q), q != 0);
            Check.same("45: comesForth " + q, y.comesForth(q), true);
        }
        refusesArguments("42: lies", q -> y.lies(q), -4, 161);
        refusesArguments("45: comesForth", q -> y.comesForth(q), -4, 161);
        Quarterpowers z = new Quarterpowers();
        for (int q = -4; q <= 144; q++) {
            Check.same("43: undone " + q, z.undone(q), true);
        }
        refusesArguments("43: undone", q -> z.undone(q), -5, 145);
        for (int q = -32; q <= -5; q++) {
            Check.same("44: comesBack " + q, z.comesBack(q), true);
        }
        refusesArguments("44: comesBack", q -> z.comesBack(q), -33, -4, 0);
        Quarterpowers w = new Quarterpowers();
        for (int q = -160; q <= 160; q++) {
            Check.same("46: opposite " + q, w.opposite(q), true);
        }
        refusesArguments("46: opposite", q -> w.opposite(q), -161, 161);
        Check.same("38 to 46 are no acts", w.house(0) + x.house(0) + y.house(0) + z.house(0), 0);
    }

    private static void answer() {
        Quarterpowers x = new Quarterpowers();
        Check.same("38: e", x.answer(1, 4, 29), 1459366444);
        Check.same("38: powered 0", x.answer(1, 0, 0), 1);
        Check.same("38: lessened 0, logged 0", x.answer(2, 0, 90) + x.answer(3, 0, 90), 0);
        Check.same("38: e - 1", x.answer(2, 4, 0), 1);
        Check.same("38: the logarithm of 2", x.answer(3, 4, 31), 1488522235);
        Check.same("38: the logarithm of 1/4", x.answer(3, -3, 0), -2);
        Check.same("38: least k", x.answer(1, 160, -62), 0);
        Check.same("38: least of a below one", x.answer(2, -128, -62), -1);
        Check.same("38: the least int", x.answer(2, -128, 31), Integer.MIN_VALUE);
        Check.refusesState("38: less than the least int", () -> x.answer(2, -128, 32));
        Check.refusesState("38: too great", () -> x.answer(1, 160, -26));
        Check.refusesState("38: 2^31", () -> x.answer(1, 0, 31));
        Check.refusesState("38: far too great", () -> x.answer(1, 160, 90));
        refusesArguments("38: how", how -> x.answer(how, 0, 0), 0, 4);
        refusesArguments("38: q of 1", q -> x.answer(1, q, 0), -161, 161);
        refusesArguments("38: q of 2", q -> x.answer(2, q, 0), -129, 145);
        refusesArguments("38: q of 3", q -> x.answer(3, q, 0), -4, 161);
        refusesArguments("38: k", k -> x.answer(1, 160, k), -63, 91);
    }

    private static void below() {
        Quarterpowers x = new Quarterpowers();
        Check.same("39: both zeros", x.below(0, 1, 90), 162);
        Check.same("39: no zero", x.below(0, 0, 0), 160);
        Check.same("39: no zero either", x.below(0, -1, 90), 160);
        Check.same("39: of itself none", x.below(0, 20, 2), 160 + 2 + 19);
        Check.same("39: powered, below 1", x.below(1, 1, 0), 160);
        Check.same("39: powered, just above 1", x.below(1, 1048577, 20), 161);
        Check.same("39: powered, 0", x.below(1, 0, 5), 0);
        Check.same("39: powered, least k", x.below(1, 1, -62), 321);
        Check.same("39: lessened, 0", x.below(2, 0, 10), 128);
        Check.same("39: lessened, just above", x.below(2, 1, 90), 129);
        Check.same("39: lessened, -1", x.below(2, -1, 0), 0);
        Check.same("39: lessened, all", x.below(2, Integer.MAX_VALUE, -62), 273);
        Check.same("39: logged, 0", x.below(3, 0, 0), 3);
        Check.same("39: logged, the least int", x.below(3, Integer.MIN_VALUE, -62), 0);
        Check.same("39: logged, the least int by 31", x.below(3, Integer.MIN_VALUE, 31), 1);
        Check.same("39: logged, the greatest int", x.below(3, Integer.MAX_VALUE, 0), 164);
        refusesArguments("39: how", how -> x.below(how, 0, 0), -1, 4);
        refusesArguments("39: k", k -> x.below(0, 0, k), -63, 91);
    }

    private static void rises() {
        Quarterpowers x = new Quarterpowers();
        int[] first = {-160, -160, -128, -3};
        int[] last = {160, 160, 144, 160};
        for (int i = 0; i < 4; i++) {
            int how = i;
            Check.so("40: all of " + how, x.rises(how, first[how], last[how]));
            Check.so("40: one of " + how, x.rises(how, last[how], last[how]) && x.rises(how, first[how], first[how]));
            refusesArguments("40: from of " + how, from -> x.rises(how, from, last[how]), first[how] - 1, last[how] + 1);
            refusesArguments("40: to of " + how, to -> x.rises(how, first[how], to), first[how] - 1, last[how] + 1);
            refusesArguments("40: from after to of " + how, to -> x.rises(how, 1, to), 0, -1);
        }
        refusesArguments("40: how", how -> x.rises(how, 0, 0), -1, 4);
    }

    // ---- promises 47 to 50

    private static void theWhole() {
        house();
        soundAndDigest();
    }

    private static void house() {
        Quarterpowers x = oneOfEach();
        Check.same("47: acts", x.house(0), 12);
        Check.same("47: refused", x.house(1), 0);
        Check.same("47: knocks", x.house(2), 0);
        Check.same("47: quarters, zeros too", x.house(3), 2);
        Check.same("47: near pairs", x.house(4), 1);
        x.copy(0, 2);
        x.copy(1, 3);
        Check.same("47: each pair once", x.house(4), 4);
        Check.same("47: quarters then", x.house(3), 3);
        x.copy(5, 0);
        x.quarter(6, 9);
        Check.same("47: other near pairs", x.house(4), 2 + 2);
        Check.same("47: it can not be done", x.power(5, 5), -9);
        Check.same("47: nor this", x.turn(4), -9);
        Check.same("48: knock", x.knock(), 1);
        Check.same("48: knock again", x.knock(), 2);
        Check.same("47: acts then", x.house(0), 16);
        Check.same("47: refused then", x.house(1), 2);
        Check.same("47: knocks then", x.house(2), 2);
        refusesArguments("47: house", what -> x.house(what), -1, 5);
        Check.same("48: only this object", new Quarterpowers().knock(), 1);
    }

    private static void soundAndDigest() {
        Quarterpowers x = oneOfEach();
        Check.so("49: sound", x.isSound());
        Check.so("49: new", new Quarterpowers().isSound());
        long acts = x.house(0);
        Check.same("50: one of each", x.digest(), DigestOf.told(x));
        Check.same("50: it changes nothing", x.house(0), (int) acts);
        Quarterpowers y = new Quarterpowers();
        Check.same("50: new", y.digest(), DigestOf.told(y));
        long before = y.digest();
        y.knock();
        Check.so("50: a knock is seen", y.digest() != before);
        Check.same("50: after a knock", y.digest(), DigestOf.told(y));
    }

    /** Promise 50, made of what the other methods tell. */
    private static final class DigestOf {
        private long d = 7896;

        private void take(Object told) {
            d = d * 31 + (told instanceof Boolean ? (Boolean) told ? 1 : 0 : (Integer) told);
        }

        static long told(Quarterpowers x) {
            DigestOf all = new DigestOf();
            for (int i = 0; i < 8; i++) {
                int cell = i;
                all.take(x.kind(i));
                all.take(x.of(i));
                all.take(x.isBelow(i));
                boolean hasHeight = Check.told(() -> x.height(cell)) instanceof Integer;
                all.take(hasHeight ? x.height(i) : 0);
                if (hasHeight) {
                    all.take(x.digits(i));
                }
                boolean hasDigits = x.kind(i) == 0 || x.kind(i) == 1;
                all.take(hasDigits ? x.upper(i) : 0);
                if (hasDigits) {
                    all.take(x.lower(i));
                }
                all.take(x.find(i, false));
                all.take(x.find(i, true));
                all.take(x.rank(i));
                for (int how = 0; how <= 3; how++) {
                    all.take(x.before(how, i));
                }
            }
            for (int i = 0; i < 8; i++) {
                for (int j = i + 1; j < 8; j++) {
                    all.take(x.order(i, j));
                }
            }
            for (int what = 0; what <= 4; what++) {
                all.take(x.house(what));
            }
            all.take(x.isSound());
            return all.d;
        }
    }
}
