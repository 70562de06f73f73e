/** Promises 30 to 33: notes with gaps. */
public final class NotesTest {
    private static final Check CHECK = new Check("NotesTest");
    private static final int LOW = Integer.MIN_VALUE;
    private static final int HIGH = Integer.MAX_VALUE;

    public static void main(String[] args) {
        note();
        noteFull();
        upByNone();
        upInAndOut();
        upWhereNobodyLooked();
        upNever();
        begins();
        tear();
        CHECK.end();
    }

    private static void is(String call, long got, long due) {
        CHECK.is(call, got, due);
    }

    private static void note() {
        EvenWheel x = new EvenWheel();
        long before = x.digest();
        is("30 note(-1, 0)", x.note(-1, 0), -102);
        is("30 note(3, 0)", x.note(3, 0), -102);
        is("30 note(MIN, 0)", x.note(LOW, 0), -102);
        is("30 note(MAX, 0)", x.note(HIGH, 0), -102);
        is("30 note(0, -1)", x.note(0, -1), -102);
        is("30 note(0, 37)", x.note(0, 37), -102);
        is("30 note(1, -1)", x.note(1, -1), -102);
        is("30 note(1, 37)", x.note(1, 37), -102);
        is("30 note(2, 1)", x.note(2, 1), -102);
        is("30 note(2, -1)", x.note(2, -1), -102);
        is("30 note(0, MAX)", x.note(0, HIGH), -102);
        is("30 note(1, MIN)", x.note(1, LOW), -102);
        CHECK.unchanged("30 note refused", x, before);
        is("30 note(0, 0)", x.note(0, 0), 1);
        is("30 note(0, 36)", x.note(0, 36), 2);
        is("30 note(1, 0)", x.note(1, 0), 3);
        is("30 note(1, 36)", x.note(1, 36), 4);
        is("30 note(2, 0)", x.note(2, 0), 5);
    }

    private static void noteFull() {
        EvenWheel x = new EvenWheel();
        for (int i = 1; i <= 40; i++) {
            is("30 note " + i, x.note(2, 0), i);
        }
        is("30 the 41st", x.note(0, 1), -104);
        is("30 OUTSIDE ahead of FULL", x.note(0, 37), -102);
        is("33 tear()", x.tear(), 40);
        is("30 anew", x.note(0, 1), 1);
    }

    private static void upByNone() {
        EvenWheel x = new EvenWheel();
        for (int side = 0; side < 2; side++) {
            is("31 up(0)", x.up(0, side), 0);
            is("31 up(36)", x.up(36, side), 36);
            is("31 up(17)", x.up(17, side), 17);
            is("31 up(37)", x.up(37, side), -102);
            is("31 up(-1)", x.up(-1, side), -102);
            is("31 up(MIN)", x.up(LOW, side), -102);
            is("31 up(MAX)", x.up(HIGH, side), -102);
        }
        is("31 side 2", x.up(0, 2), -102);
        is("31 side -1", x.up(0, -1), -102);
        is("31 side MIN", x.up(0, LOW), -102);
        is("32 begins()", x.begins(), 37);
        x.build(30);
        is("31 up(180)", x.up(180, 0), 180);
        is("31 up(181)", x.up(181, 0), -102);
        is("32 begins() of 30", x.begins(), 181);
    }

    private static void upInAndOut() {
        EvenWheel x = new EvenWheel();
        x.note(0, 10);
        is("31 up(26, 0)", x.up(26, 0), 36);
        is("31 up(26, 1)", x.up(26, 1), 36);
        is("31 up(27, 0)", x.up(27, 0), -1);
        is("31 up(27, 1)", x.up(27, 1), -1);
        is("32 begins()", x.begins(), 27);
        x.note(1, 15);
        is("31 up(4, 0)", x.up(4, 0), -1);
        is("31 up(5, 0)", x.up(5, 0), 0);
        is("31 up(5, 1)", x.up(5, 1), 0);
        is("31 up(26, 1)", x.up(26, 1), 21);
        is("31 as it is behind each note, not at the end alone", x.up(30, 1), -1);
        is("32 begins()", x.begins(), 22);
        is("31 the begin is still OUTSIDE first", x.up(37, 0), -102);
    }

    private static void upWhereNobodyLooked() {
        EvenWheel x = new EvenWheel();
        x.build(30);
        x.note(2, 0);
        is("31 36 less", x.up(100, 0), 64);
        is("31 36 more", x.up(100, 1), 136);
        is("31 0 at least", x.up(35, 0), 0);
        is("31 180 at most", x.up(150, 1), 180);
        x.note(1, 20);
        is("31 then 20 out", x.up(100, 0), 44);
        is("31 then 20 out", x.up(100, 1), 116);
        is("31 less than 20 may not go out", x.up(0, 0), 0);
        is("31 of at most 36", x.up(0, 1), 16);
        x.note(2, 0);
        is("31 twice", x.up(100, 0), 8);
        is("31 twice", x.up(100, 1), 152);
        is("32 begins()", x.begins(), 181);
    }

    private static void upNever() {
        EvenWheel x = new EvenWheel();
        x.note(0, 20);
        x.note(0, 17);
        is("31 37 came in", x.up(0, 0), -1);
        is("31 37 came in", x.up(0, 1), -1);
        is("32 begins()", x.begins(), 0);
        x.note(2, 0);
        x.note(1, 3);
        is("31 a gap behind mends nothing", x.up(0, 0), -1);
        is("32 begins()", x.begins(), 0);
    }

    private static void begins() {
        EvenWheel x = new EvenWheel();
        x.build(12);
        x.note(1, 30);
        is("32 30 at least", x.begins(), 43);
        x.note(0, 36);
        is("32 66 at most", x.begins(), 37);
        x.note(0, 36);
        is("32 30 alone", x.begins(), 1);
        is("31 up(30, 0)", x.up(30, 0), 72);
        is("31 up(29, 0)", x.up(29, 0), -1);
        is("31 up(31, 0)", x.up(31, 0), -1);
        x.tear();
        x.note(1, 36);
        x.note(2, 0);
        x.note(1, 36);
        is("32 over a gap", x.begins(), 37);
        x.note(1, 36);
        is("32 over a gap, 72 out behind it", x.begins(), 1);
        is("31 up(72, 1)", x.up(72, 1), 0);
        is("31 up(71, 1)", x.up(71, 1), -1);
    }

    private static void tear() {
        EvenWheel x = new EvenWheel();
        is("33 tear() of none", x.tear(), 0);
        x.note(0, 36);
        x.note(0, 36);
        is("33 tear()", x.tear(), 2);
        is("33 tear() again", x.tear(), 0);
        is("31 up(36, 1) by none", x.up(36, 1), 36);
        is("32 begins() by none", x.begins(), 37);
    }
}
