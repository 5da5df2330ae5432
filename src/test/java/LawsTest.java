/** Promises 13, 14, 15, 16, 17: the tape, the laws read from it, their faults and what is in force. */
public final class LawsTest {
    public static void main(String[] args) {
        feeding();
        ending();
        byteOrder();
        eachLaw();
        latest();
        inPlaceOfThoseThatAre();
        blanks();
        misplaced();
        beyondBounds();
        firstFromTheLeft();
        longTexts();
        faultsAndTape();
        whileRunning();
        lawRefusals();
        Due.done();
    }

    private static void feeding() {
        IceRun x = new IceRun();
        for (int i = 1; i <= 15; i++) {
            Due.is("feed " + i, 20 * i, x.feed(0, 0, 0, 0, 0));
        }
        Due.is("too many", -1, x.feed(0, 0, 0, 0, 0));
        Due.is("300 bytes", 300, x.count(3));
        x.end(281);
        Due.is("still too many", -1, x.feed(0, 0, 0, 0, 0));
        Due.is("281 bytes", 281, x.count(3));
        x.end(280);
        Due.is("just enough", 300, x.feed(0, 0, 0, 0, 0));
    }

    private static void ending() {
        IceRun x = new IceRun();
        Due.is("end of nothing", 0, x.end(0));
        Due.is("more than nothing", -1, x.end(1));
        x.feed(1, 2, 3, 4, 5);
        Due.is("more", -1, x.end(21));
        Due.is("below", -1, x.end(-1));
        Due.is("least", -1, x.end(Integer.MIN_VALUE));
        Due.is("as many", 20, x.end(20));
        Due.is("fewer", 7, x.end(7));
        Due.is("7 bytes", 7, x.count(3));
        Due.is("more again", -1, x.end(8));
        Due.is("behind 7", 27, x.feed(1, 2, 3, 4, 5));
        Due.is("nothing", 0, x.end(0));
        Due.is("0 bytes", 0, x.count(3));
    }

    private static void byteOrder() {
        IceRun x = new IceRun();
        x.feed('c' << 24 | 'u' << 16 | 't' << 8 | '5', ';' << 24 | 'r' << 16 | 'u' << 8 | 'n',
                's' << 24 | '2' << 16 | ';' << 8 | 'w', 'a' << 24 | 'r' << 16 | 'm' << 8 | '7',
                '7' << 24 | ';' << 16 | ' ' << 8 | 200);
        Due.is("a byte above 127", 1, x.laws());
        Due.is("its place", 19, x.place());
        x.feed('c' << 24 | 'u' << 16 | 't' << 8 | '5', ';' << 24 | 'r' << 16 | 'u' << 8 | 'n',
                's' << 24 | '2' << 16 | ';' << 8 | 'w', 'a' << 24 | 'r' << 16 | 'm' << 8 | '7',
                '7' << 24 | ';' << 16 | ' ' << 8 | 200);
        x.end(19);
        Due.is("without it", 0, x.laws());
        inForce("by bytes", x, 200, 77, 0, 5, 2, 0);
    }

    private static void inForce(String what, IceRun x, int... due) {
        for (int i = 0; i < due.length; i++) {
            Due.is(what + ": law " + i, due[i], x.law(i));
        }
    }

    private static void good(String text, int... due) {
        IceRun x = new IceRun();
        Due.is("laws of '" + text + "'", 0, Due.laws(x, text));
        Due.is("place of '" + text + "'", -1, x.place());
        Due.is("tape behind '" + text + "'", 0, x.count(3));
        inForce("'" + text + "'", x, due);
    }

    private static void bad(String text, int fault, int place) {
        IceRun x = new IceRun();
        Due.laws(x, "weight 111; warm 22; reverse 3; cut 4; runs 2; share;");
        Due.is("laws of '" + text + "'", fault, Due.laws(x, text));
        Due.is("place of '" + text + "'", place, x.place());
        Due.is("tape behind '" + text + "'", 0, x.count(3));
        inForce("'" + text + "'", x, 111, 22, 3, 4, 2, 1);
    }

    private static void eachLaw() {
        good("", 200, 100, 0, 16, 4, 0);
        good("weight 50;", 50, 100, 0, 16, 4, 0);
        good("weight 200;", 200, 100, 0, 16, 4, 0);
        good("warm 0;", 200, 0, 0, 16, 4, 0);
        good("warm 100;", 200, 100, 0, 16, 4, 0);
        good("reverse 0;", 200, 100, 0, 16, 4, 0);
        good("reverse 16;", 200, 100, 16, 16, 4, 0);
        good("cut 1;", 200, 100, 0, 1, 4, 0);
        good("cut 16;", 200, 100, 0, 16, 4, 0);
        good("runs 1;", 200, 100, 0, 16, 1, 0);
        good("runs 4;", 200, 100, 0, 16, 4, 0);
        good("share;", 200, 100, 0, 16, 4, 1);
        good("keep;", 200, 100, 0, 16, 4, 0);
        good("weight 60;warm 7;reverse 8;cut 9;runs 3;share;", 60, 7, 8, 9, 3, 1);
    }

    private static void latest() {
        good("cut 3;cut 7;weight 99;cut 5;", 99, 100, 0, 5, 4, 0);
        good("share;keep;", 200, 100, 0, 16, 4, 0);
        good("keep;share;", 200, 100, 0, 16, 4, 1);
        good("share;keep;share;runs 2;", 200, 100, 0, 16, 2, 1);
    }

    private static void inPlaceOfThoseThatAre() {
        IceRun x = new IceRun();
        Due.laws(x, "weight 60;warm 7;reverse 8;cut 9;runs 3;share;");
        Due.is("anew", 0, Due.laws(x, "warm 8;"));
        inForce("anew", x, 200, 8, 0, 16, 4, 0);
        Due.laws(x, "share;");
        Due.is("blanks alone", 0, Due.laws(x, " \n "));
        inForce("blanks alone", x, 200, 100, 0, 16, 4, 0);
    }

    private static void blanks() {
        good("  \n cut \n\n 7 \n ; \n", 200, 100, 0, 7, 4, 0);
        good("cut7;runs2;", 200, 100, 0, 7, 2, 0);
        good("cut0007;weight0060;", 60, 100, 0, 7, 4, 0);
        good("share ;", 200, 100, 0, 16, 4, 1);
        bad("cut\t7;", 1, 3);
        bad("cut\r7;", 1, 3);
        bad("cut 7\t;", 1, 5);
        bad("\0", 1, 0);
    }

    private static void misplaced() {
        bad("cut", 1, 3);
        bad("cut  \n", 1, 6);
        bad("cut 7", 1, 5);
        bad("cut 7 ", 1, 6);
        bad("share", 1, 5);
        bad("keep 1;", 1, 5);
        bad(";", 1, 0);
        bad("  ;", 1, 2);
        bad("cut 7;;", 1, 6);
        bad("7;", 1, 0);
        bad("cut ;", 1, 4);
        bad("cut cut 7;", 1, 4);
        bad("cut 7 7;", 1, 6);
        bad("cut 7 share;", 1, 6);
        bad("cut 7a;", 1, 5);
        bad("cu 7;", 1, 0);
        bad("cuts 7;", 1, 0);
        bad("cutz 7;", 1, 0);
        bad("acut 7;", 1, 0);
        bad("but 7;", 1, 0);
        bad("suns 2;", 1, 0);
        bad("sharekeep;", 1, 0);
        bad("share;sharp;", 1, 6);
        bad("Cut 7;", 1, 0);
        bad("cuT 7;", 1, 0);
        bad("cut -7;", 1, 4);
        bad("cut 7,", 1, 5);
        bad("cut 00007;", 1, 4);
        bad("weight 100000000000000000000;", 1, 7);
        bad("cut 7; ?", 1, 7);
        bad("cut 7:", 1, 5);
        bad("cut /7;", 1, 4);
        bad("`;", 1, 0);
        bad("{;", 1, 0);
    }

    private static void beyondBounds() {
        bad("weight 49;", 2, 7);
        bad("weight 201;", 2, 7);
        bad("warm 101;", 2, 5);
        bad("reverse 17;", 2, 8);
        bad("cut 0;", 2, 4);
        bad("cut 17;", 2, 4);
        bad("runs 0;", 2, 5);
        bad("runs 5;", 2, 5);
        bad("weight9999;", 2, 6);
        bad("weight 0000;", 2, 7);
        bad("share; warm \n 0101 ;", 2, 14);
    }

    private static void firstFromTheLeft() {
        bad("cut 0", 2, 4);
        bad("cut 0 ?", 2, 4);
        bad("cut 0;cut;", 2, 4);
        bad("cut;cut 0;", 1, 3);
        bad("share share; runs 9;", 1, 6);
        bad("cut 17a", 2, 4);
    }

    private static void longTexts() {
        StringBuilder most = new StringBuilder();
        while (most.length() < 300) {
            most.append("keep;");
        }
        good(most.toString(), 200, 100, 0, 16, 4, 0);
        most.setLength(298);
        bad(most.toString(), 1, 295);
        bad(" ".repeat(297) + "cut", 1, 300);
        bad("a".repeat(300), 1, 0);
        bad("cut " + "1".repeat(296), 1, 4);
        good(" ".repeat(300), 200, 100, 0, 16, 4, 0);
        good(" ".repeat(293) + "runs 2;", 200, 100, 0, 16, 2, 0);
    }

    private static void faultsAndTape() {
        IceRun x = new IceRun();
        Due.is("no laws yet", -1, x.place());
        Due.laws(x, "cut 99;");
        Due.is("a fault", 4, x.place());
        Due.feed(x, "share");
        Due.is("feeding changes no place", 4, x.place());
        Due.feed(x, ";");
        Due.is("a good text", 0, x.laws());
        Due.is("no fault then", -1, x.place());
        Due.is("share", 1, x.law(5));
    }

    private static void whileRunning() {
        IceRun x = new IceRun();
        x.track(5, 2);
        x.sled(0, 100, 0, 5);
        Due.laws(x, "cut 77;");
        x.race();
        x.begin(0);
        Due.feed(x, "warm 5;");
        Due.is("a run goes on", -1, x.laws());
        Due.is("the tape stays", 7, x.count(3));
        Due.is("the laws stay", 100, x.law(1));
        Due.is("the place stays", 4, x.place());
        x.start();
        Due.is("behind the run", 0, x.laws());
        Due.is("in force then", 5, x.law(1));
        Due.is("no fault", -1, x.place());
    }

    private static void lawRefusals() {
        IceRun x = new IceRun();
        int[] others = {-1, 6, Integer.MIN_VALUE, Integer.MAX_VALUE};
        for (int what : others) {
            Due.is("law " + what, -1, x.law(what));
        }
    }
}
