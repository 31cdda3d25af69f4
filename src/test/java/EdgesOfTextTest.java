/* Promise 7 and what the Terms tell of THE TEXT: each FAULT by its place, and what a TOWN that is read leaves. */
public final class EdgesOfTextTest {
    private static final String SEVEN = "town;lie0 1;lie0 1;lie0 1;lie0 1;lie0 1;lie0 1;lie0 1;";
    private static final String FIVE = "town;oven0;oven0;oven0;oven0;oven0;";

    private static final Edges edges = new Edges();

    /* Nothing is changed by a FAULT, also where some of everything was ahead of it. */
    private static void fault(String text, int place) {
        edges.is("<" + text + ">", Towns.typed(text).read(), -10 - place);
        edges.asks("<" + text + "> where some is", () -> someAnd(text), OvenLies::read, -10 - place);
    }

    private static OvenLies someAnd(String text) {
        OvenLies s = Towns.some();
        s.clear();
        Towns.type(s, text);
        return s;
    }

    private static OvenLies told(String text, int items) {
        OvenLies s = Towns.typed(text);
        edges.is("<" + text + ">", s.read(), items);
        edges.is("<" + text + "> once more", s.read(), items);
        for (int i = 0; i < 3; i++) edges.is("<" + text + "> STATUS " + i, s.status(i), 0);
        OvenLies some = someAnd(text);
        edges.is("<" + text + "> where some was", some.read(), items);
        edges.is("<" + text + "> LIES where some were", some.count(0), s.count(0));
        edges.is("<" + text + "> HEAT where some was", some.count(4), s.count(4));
        return s;
    }

    private static void itemTown() {
        edges.sentence("7", "town (once, first of all)");
        told("town;", 1);
        told("town;days 1;", 2);
        edges.sentence("7", "FAULT: town again");
        fault("town;town;", 5);
        fault("town;lie 0 1;town;", 13);
        fault("town;town", 5);
        edges.sentence("7", "FAULT: anything ahead of it");
        fault("lie 0 1;", 0);
        fault("oven 0;town;", 0);
        fault(" days 1;town;", 1);
        fault("say", 0);
        fault("forget 0;", 0);
        fault(";town;", 0);
        fault("1town;", 0);
        edges.sentence("7", "each ended by ;");
        fault("town 1;", 5);
        fault("town oven 0;", 5);
        fault("town;lie 0 1 2;", 13);
        fault("town;lie 0 1 lie 0 1;", 13);
        fault("town;oven 0 0;", 12);
        fault("town;lie 0 1;oven 0;say 0 0 0;", 28);
        fault("town;lie 0 1;forget 0 0;", 22);
        fault("town;days 1 1;", 12);
        edges.sentence("7", "FAULT: an ITEM that is none");
        fault("town;;", 5);
        fault("town; ;", 6);
        fault("town;lie 0 1;;", 13);
        fault("town;0;", 5);
    }

    private static void itemLie() {
        edges.sentence("7", "lie KIND UNTRUTH (KINDS 0 .. 5)");
        edges.is("KIND 0", told("town;lie 0 3;", 2).of(0, 0), 0);
        edges.is("KIND 5", told("town;lie 5 3;", 2).of(0, 0), 5);
        fault("town;lie 6 3;", 9);
        fault("town;lie 99 3;", 9);
        fault("town;lie 10 3;", 9);
        edges.sentence("7", "lie KIND UNTRUTH (1 .. 9)");
        edges.is("UNTRUTH 1", told("town;lie 3 1;", 2).of(0, 1), 1);
        edges.is("UNTRUTH 9", told("town;lie 3 9;", 2).of(0, 1), 9);
        edges.is("KNOWN to none", told("town;lie 3 9;", 2).of(0, 2), 0);
        fault("town;lie 3 0;", 11);
        fault("town;lie 3 00;", 11);
        fault("town;lie 3 10;", 11);
        edges.sentence("7", "FAULT: an 8th lie at its word");
        edges.is("7 of them", told(SEVEN, 8).count(0), 7);
        fault(SEVEN + "lie0 1;", 54);
        fault(SEVEN + "lie", 54);
        fault(SEVEN + " lie 9", 55);
        fault(SEVEN + "oven0;lie0 1;", 60);
        edges.sentence("7", "LIES of the town that was there are none of it");
        OvenLies full = Towns.full();
        full.clear();
        Towns.type(full, "town;lie 2 4;");
        edges.is("where 7 were", full.read(), 2);
        edges.is("LIES", full.count(0), 1);
        edges.is("OVENS", full.count(1), 0);
        edges.is("UNTRUTH", full.of(0, 1), 4);
        edges.is("KNOWN", full.of(0, 2), 0);
    }

    private static void itemOven() {
        edges.sentence("7", "oven KIND (0 .. 5)");
        edges.is("KIND 0", told("town;oven 0;", 2).about(0, 0), 0);
        edges.is("KIND 5", told("town;oven 5;", 2).about(0, 0), 5);
        edges.is("HEAT", told("town;oven 5;", 2).about(0, 1), 0);
        fault("town;oven 6;", 10);
        fault("town;oven 55;", 10);
        edges.sentence("7", "FAULT: a 6th oven at its word");
        edges.is("5 of them", told(FIVE, 6).count(1), 5);
        fault(FIVE + "oven0;", 35);
        fault(FIVE + "oven", 35);
        fault(FIVE + "  oven 9", 37);
        fault(FIVE + "lie0 1;oven0;", 42);
    }

    private static void itemSay() {
        edges.sentence("7", "say l o");
        OvenLies s = told("town;lie 0 9;lie 1 9;oven 0;oven 1;say 1 0;say 0 1;say 1 1;", 8);
        edges.is("HEAT of 0", s.about(0, 1), 22);
        edges.is("HEAT of 1: 12 and 12", s.about(1, 1), 24);
        edges.is("KNOWN of 1", s.of(1, 2), 2);
        edges.sentence("7", "FAULT: a LIE that is not there yet");
        fault("town;oven 0;say 0 0;", 16);
        fault("town;oven 0;say 0 0;lie 0 1;", 16);
        fault("town;lie 0 1;oven 0;say 1 0;", 24);
        told("town;lie 0 1;lie 0 1;oven 0;say 1 0;", 5);
        fault(SEVEN + "oven 0;say 7 0;", 65);
        told(SEVEN + "oven 0;say 6 0;", 10);
        edges.sentence("7", "FAULT: an OVEN that is not there yet");
        fault("town;lie 0 1;say 0 0;", 19);
        fault("town;lie 0 1;oven 0;say 0 1;oven 0;", 26);
        told("town;lie 0 1;oven 0;oven 0;say 0 1;", 5);
        fault(FIVE + "lie 0 1;say 0 5;", 49);
        told(FIVE + "lie 0 1;say 0 4;", 8);
        edges.sentence("7", "say: 99 at most, KNOWN to 9 at most");
        OvenLies hot = told("town;lie5 9;lie5 9;lie5 9;oven0;say0 0;say1 0;say2 0;", 8);
        edges.is("HEAT", hot.about(0, 1), 99);
        OvenLies known = told("town;lie5 9;oven0;" + "say0 0;".repeat(10), 13);
        edges.is("KNOWN", known.of(0, 2), 9);
        edges.is("nine", told("town;lie5 9;oven0;" + "say0 0;".repeat(9), 12).of(0, 2), 9);
    }

    private static void itemForget() {
        edges.sentence("7", "forget l");
        OvenLies s = told("town;lie 0 9;lie 0 9;oven 0;say 0 0;say 1 0;say 1 0;forget 1;", 8);
        edges.is("KNOWN", s.of(1, 2), 0);
        edges.is("of the other", s.of(0, 2), 1);
        edges.is("HEAT stays", s.about(0, 1), 52);
        edges.sentence("7", "forget: a LIE that is not there yet");
        fault("town;forget 0;", 12);
        fault("town;forget 0;lie 0 1;", 12);
        fault("town;lie 0 1;forget 1;", 20);
        fault(SEVEN + "forget 7;", 61);
        told(SEVEN + "forget 6;", 9);
        edges.sentence("7", "forget of a LIE KNOWN to none is no FAULT that is told");
        told("town;lie 0 1;forget 0;", 3);
    }

    private static void itemDays() {
        edges.sentence("7", "days n (1 .. 99)");
        edges.is("1", told("town;days 1;", 2).count(3), 1);
        edges.is("99", told("town;days 99;", 2).count(3), 99);
        edges.is("60 and 61", told("town;days 60;days 61;", 3).count(3), 121);
        fault("town;days 0;", 10);
        fault("town;days 00;", 10);
        fault("town;days 100;", 10);
        edges.sentence("7", "so many go by, where it stands");
        edges.is("ahead", told("town;lie 5 9;oven 0;days 10;say 0 0;", 5).about(0, 1), 44);
        edges.is("behind", told("town;lie 5 9;oven 0;say 0 0;days 3;", 5).about(0, 1), 23);
        edges.is("between", told("town;lie 5 9;oven 0;say 0 0;days 4;say 0 0;days 1;", 7).about(0, 1), 25);
        edges.is("0 at least", told("town;lie 5 9;oven 0;say 0 0;days 7;", 5).about(0, 1), 0);
        edges.is("an OVEN told behind them", told("town;days 9;oven 0;lie 5 9;days 1;say 0 0;", 6).about(0, 1), 44);
        OvenLies most = Towns.typed("town;" + "days99;".repeat(20));
        edges.is("as many DAYS as can be", most.read(), 21);
        edges.is("the DAY", most.count(3), 1980);
    }

    private static void words() {
        edges.sentence("7", "TOKENS: words of letters a .. z");
        fault("towna;", 0);
        fault("townz;", 0);
        fault("atown;", 0);
        fault("town`;", 4);
        fault("town{;", 4);
        fault("townA;", 4);
        fault("townZ;", 4);
        fault("Town;", 0);
        fault("`town;", 0);
        fault("{town;", 0);
        edges.sentence("7", "FAULT: a word that is none");
        String[] none = {"a", "z", "li", "lies", "ovens", "ove", "says", "sa", "forgets", "forge", "day", "dayss",
            "lieoven", "til", "eil", "tie", "lin", "zay", "toww", "forges", "owen"};
        for (String word : none) {
            fault("town;" + word + " 0 1;", 5);
            fault("town;" + word, 5);
        }
        fault("tow;", 0);
        fault("towns;", 0);
        fault("towntown;", 0);
        fault("to wn;", 0);
        fault("uown;", 0);
        fault("tovn;", 0);
        edges.sentence("7", "FAULT: a word where a number is due");
        fault("town;lie town 1;", 9);
        fault("town;lie 0 oven;", 11);
        fault("town;oven a;", 10);
        fault("town;days days;", 10);
    }

    private static void numbers() {
        edges.sentence("7", "figures (1 or 2 are one number)");
        edges.is("05 09", told("town;lie 05 09;", 2).of(0, 1), 9);
        edges.is("00", told("town;oven 00;", 2).about(0, 0), 0);
        edges.is("say 00 00", told("town;lie 0 1;oven 0;say 00 00;", 4).about(0, 1), 2);
        edges.is("days 09", told("town;days 09;", 2).count(3), 9);
        fault("town;lie 01;", 11);
        fault("town;lie 12;", 9);
        edges.sentence("7", "FAULT: a run of three figures or more (at its first one)");
        fault("town;oven 000;", 10);
        fault("town;lie 000 1;", 9);
        fault("town;lie 0 001;", 11);
        fault("town;lie 0 0001;", 11);
        fault("town;days 001;", 10);
        fault("town;days 00000000001;", 10);
        fault("town;days 4294967297;", 10);
        fault("town;lie 0 1;forget 000;", 20);
        fault("town;oven 000", 10);
        edges.sentence("7", "figures 0 .. 9 alone");
        fault("town;days 1/;", 11);
        fault("town;oven 1:;", 11);
        fault("town;days /1;", 10);
        fault("town;days -1;", 10);
        fault("town;days 1.;", 11);
        edges.is("0 and 9 are figures", told("town;days 90;", 2).count(3), 90);
        edges.sentence("7", "FAULT: a ; where a number is due");
        fault("town;lie;", 8);
        fault("town;lie 0;", 10);
        fault("town;oven;", 9);
        fault("town;lie 0 1;say;", 16);
        fault("town;lie 0 1;say 0;", 18);
        fault("town;forget;", 11);
        fault("town;days;", 9);
        edges.sentence("7", "FAULT: a number where a word is due");
        fault("7;", 0);
        fault("town;5;", 5);
        fault("town;555;", 5);
    }

    private static void blanks() {
        edges.sentence("7", "blanks (32), any number, ahead of, between and behind TOKENS");
        String wide = "   town  ;  lie   2    7  ;   oven    3  ;  say  0   0  ;  ";
        OvenLies s = told(wide, 4);
        edges.is("HEAT", s.about(0, 1), 7);
        told(Towns.blanksBehind("town;", 150), 1);
        told(" ".repeat(145) + "town;", 1);
        told("town" + " ".repeat(145) + ";", 1);
        edges.sentence("7", "blanks are needed only between two words, two numbers");
        edges.is("none else", told("town;lie2 7;oven3;say0 0;forget0;days1;", 6).about(0, 1), 0);
        fault("town;lie27;", 8);
        fault("town;lie27 1;", 8);
        fault("townlie 0 1;", 0);
        fault("town;oven3say", 10);
        edges.sentence("7", "a blank within a TOKEN makes two of it");
        fault("town;o ven 0;", 5);
        fault("town;days 1 0;", 12);
        edges.sentence("7", "FAULT: a byte that begins none");
        for (int c = 0; c < 128; c++) {
            boolean begins = c >= 'a' && c <= 'z' || c >= '0' && c <= '9' || c == ';' || c == ' ';
            if (!begins) {
                fault("town;days 5" + (char) c + ";", 11);
                fault((char) c + "town;", 0);
            }
        }
        fault("town;lie 0 1;\t", 13);
        fault("town;\n", 5);
    }

    private static void ends() {
        edges.sentence("7", "FAULT: the TEXT's length, if it ends too early (an empty one, too)");
        fault("", 0);
        fault(" ", 1);
        fault(" ".repeat(150), 150);
        fault("town", 4);
        fault("town  ", 6);
        fault("town;lie", 8);
        fault("town;lie ", 9);
        fault("town;lie 0", 10);
        fault("town;lie 0 1", 12);
        fault("town;lie 0 1  ", 14);
        fault("town;oven", 9);
        fault("town;oven 5", 11);
        fault("town;lie 0 1;oven 0;say", 23);
        fault("town;lie 0 1;oven 0;say 0", 25);
        fault("town;lie 0 1;oven 0;say 0 0", 27);
        fault("town;lie 0 1;forget", 19);
        fault("town;lie 0 1;forget 0", 21);
        fault("town;days", 9);
        fault("town;days 99", 12);
        fault(Towns.blanksBehind("town", 150), 150);
        fault("town;" + "days01;".repeat(20) + "days1", 150);
        fault(Towns.blanksBehind("town;lie 0 1", 150), 150);
        edges.sentence("7", "FAULT: the first TOKEN that can not stand there");
        fault("town;lie 6 0;oven 6;", 9);
        fault("town;days 1;days 0;towns;", 17);
        fault("town;lie 0 0", 11);
        fault("town,lie", 4);
        edges.sentence("7", "FAULT: the last place of all");
        fault(Towns.blanksBehind("town;", 149) + "x", 149);
        fault(Towns.blanksBehind("town;", 149) + ";", 149);
        fault(Towns.blanksBehind("town;lie 0", 149) + "0", 149);
        edges.is("a ; there", told(Towns.blanksBehind("town;lie 0 1", 149) + ";", 2).count(0), 1);
    }

    private static void items() {
        edges.sentence("7", "THE TOWN is read: how many ITEMS");
        edges.is("as many as can be", told("town;" + "days1;".repeat(24), 25).count(3), 24);
        edges.is("all 150 bytes", told("town;" + "days01;".repeat(19) + "days1;days1;", 22).count(3), 21);
        OvenLies s = told(Towns.LONG_TEXT, 8);
        edges.is("bytes", s.count(9), 150);
        edges.is("22, two DAYS, COME ABOUT on DAY 2: 10", s.about(0, 1), 8);
        edges.is("SMALL: half of 10", s.about(1, 1), 5);
    }

    private static void takesThePlace() {
        edges.sentence("7", "a TOWN that is read takes the place of all");
        OvenLies s = Towns.some();
        edges.is("read", s.read(), 4);
        int[] due = {1, 1, 0, 0, 12, 0, 0, 0, 0};
        String[] names = {"LIES", "OVENS", "HOT", "DAY", "HEAT", "SEEN none", "NOTES none", "MARKS none",
            "nothing to undo"};
        for (int what = 0; what <= 8; what++) edges.is(names[what], s.count(what), due[what]);
        edges.is("undo", s.undo(), -3);
        edges.is("SEEN ones begin anew", s.seen(0, 0, 0, 0, 0), 1);
        edges.is("NOTES begin anew", s.note(0, 1, 0, 0, 0), 1);
        edges.is("MARKS begin anew", s.mark(0, 0, 0, 0), 1);

        edges.sentence("7", ".. but IMAGES, THE TEXT, THE FRACTION, STATUS");
        OvenLies t = Towns.some(), twin = Towns.some();
        t.undo();
        t.lie(9, 9);
        t.read();
        twin.undo();
        twin.undo();
        edges.is("THE TEXT", t.count(9), twin.count(9));
        edges.is("above", t.part(0), twin.part(0));
        edges.is("below", t.part(1), twin.part(1));
        edges.is("BAD", t.status(0), 1);
        edges.is("IMAGE 0", t.from(0), 1);
        twin.from(0);
        edges.is("as it was kept", t.digest(), twin.digest());
        edges.is("IMAGE 1 is none still", t.from(1), -3);

        edges.sentence("7", "-10 less the FAULT: all stays");
        OvenLies u = someAnd("town;lie 5 9;oven 2;say 0 0;days 9;forget 0;x"), same = someAnd("");
        edges.is("a FAULT at the end", u.read(), -54);
        u.clear();
        edges.is("digest", u.digest(), same.digest());
        edges.is("undo", u.undo(), same.undo());
        edges.is("digest", u.digest(), same.digest());
    }

    public static void main(String[] args) {
        itemTown();
        itemLie();
        itemOven();
        itemSay();
        itemForget();
        itemDays();
        words();
        numbers();
        blanks();
        ends();
        items();
        takesThePlace();
        edges.end();
    }
}
