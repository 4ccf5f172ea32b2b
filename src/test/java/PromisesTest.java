/** For each promise of the document: ordinary calls, the edges that it names, wrong inputs. */
public final class PromisesTest {
    private static final long FAR = 4000000000000000000L;
    private static int wrong = 0;
    private static int row = 0;
    private static String promise = "";

    private static void start(String title) {
        promise = title;
        row = 0;
    }

    private static void due(long got, long want) {
        row++;
        if (got != want) {
            wrong++;
            System.out.println("promise " + promise + ", row " + row + ": answered " + got + ", due is " + want);
        }
    }

    private static int say(SignalsSighted x, String text) {
        for (int i = 0; i < text.length(); i++) {
            x.letter(text.charAt(i));
        }
        return x.tells();
    }

    /** A new object with statements told to it. */
    private static SignalsSighted told(String... texts) {
        SignalsSighted x = new SignalsSighted();
        for (String text : texts) {
            if (say(x, text) < 1) {
                wrong++;
                System.out.println("promise " + promise + ": \"" + text + "\" was not taken");
            }
        }
        return x;
    }

    public static void main(String[] args) {
        newObject();
        letter();
        tellsForm();
        tellsSense();
        tellsPlaces();
        cells();
        ground();
        bridge();
        fells();
        post();
        sets();
        train();
        need();
        ofOnes();
        height();
        time();
        sight();
        sees();
        firstAndWarned();
        safe();
        moved();
        raised();
        freed();
        worst();
        slowest();
        atOnceMostNearest();
        shadow();
        alike();
        steepest();
        down();
        mean();
        nameAndPlaceAt();
        shelf();
        layAndTaken();
        putAndLook();
        whatIs();
        judge();
        lots();
        image();
        count();
        System.out.println(wrong == 0 ? "all promises are kept" : wrong + " answers are not as due");
        if (wrong != 0) {
            System.exit(1);
        }
    }

    private static void newObject() {
        start("1");
        SignalsSighted x = new SignalsSighted();
        due(x.count(0), 16);
        for (int c = 0; c < 16; c++) {
            due(x.height(c), 10);
        }
        for (int what = 1; what <= 7; what++) {
            due(x.count(what), what == 4 ? 10 : 0);
        }
        for (int what = 11; what <= 16; what++) {
            due(x.count(what), 0);
        }
        for (int s = 0; s < 4; s++) {
            due(x.look(s, 0), FAR + 11);
        }
        due(x.safe(), 1);
    }

    private static void letter() {
        start("2");
        SignalsSighted x = new SignalsSighted();
        due(x.letter(-1), -4);
        due(x.letter(256), -6);
        due(x.letter(0), 1);
        due(x.letter(255), 2);
        for (int i = 3; i <= 120; i++) {
            due(x.letter('a'), i);
        }
        due(x.letter('a'), -6);
        due(x.letter(-1), -4);
        due(x.count(6), 120);
        due(x.count(14), 2);
        due(x.count(16), 2);
        due(x.tells(), -1000);
        due(x.count(6), 0);
        due(x.letter('a'), 1);
    }

    private static void tellsForm() {
        start("3, form");
        SignalsSighted x = new SignalsSighted();
        due(x.tells(), -1000);
        due(say(x, "g"), -1001);
        due(say(x, "need"), -1004);
        due(say(x, "need "), -1005);
        due(say(x, "need 1"), -1006);
        due(say(x, "need 12"), -1007);
        due(say(x, "need 123;"), -1007);
        due(say(x, "need  1;"), -1005);
        due(say(x, "need 1 ;"), -1006);
        due(say(x, "need 1 2;"), -1006);
        due(say(x, " need 1;"), -1000);
        due(say(x, "Need 1;"), -1000);
        due(say(x, "need;"), -1004);
        due(say(x, "need 1;;"), -1007);
        due(say(x, "need 1; need 2;"), -1007);
        due(say(x, "pa"), -1001);
        due(say(x, "plost 1 1;"), -1002);
        due(say(x, "posts 1 1;"), -1004);
        due(say(x, "post 1 1"), -1008);
        due(say(x, "bridge 1 2;"), -1010);
        due(say(x, "train 0 0 1;"), -1011);
        due(say(x, "place  1;"), -1006);
        due(say(x, "place 1;"), -1006);
        due(say(x, "place A 1;"), -1006);
        due(say(x, "place a;"), -1007);
        due(say(x, "place ab3 1;"), -1008);
        due(say(x, "place abcdefgh 1;"), -1013);
        due(say(x, "place abcdefg 1;"), 1);
        due(say(x, "ground 99 1;need x"), -1017);
        due(say(x, "ground -1 1;"), -1007);
        due(x.count(11) + x.count(12) + x.count(13) + x.count(14) + x.count(16), 0);
        due(x.count(5), 1);
        due(x.count(4), 10);
    }

    private static void tellsSense() {
        start("3, sense");
        SignalsSighted x = new SignalsSighted();
        due(say(x, "ground 0 05;ground 15 30;bridge 3 12 60;post 9 15;train 4 9 9 1;need 99;cells 24;"), 7);
        due(x.height(0), 5);
        due(x.height(15), 30);
        due(x.ofBridge(0, 2), 60);
        due(x.ofPost(0, 1), 15);
        due(x.ofTrain(0, 4), 11);
        due(x.count(4), 99);
        due(x.count(0), 24);
        due(say(x, "need 5;ground 24 1;"), -2007);
        due(x.count(4), 99);
        due(say(x, "ground 1 31;"), -2000);
        due(say(x, "need 5;bridge 24 1 2;"), -2007);
        due(say(x, "bridge 1 2 61;"), -2000);
        due(say(x, "bridge 1 3 2;"), -2000);
        due(say(x, "bridge 1 1 1;bridge 1 1 1;bridge 1 1 1;bridge 1 1 1;"), -2039);
        due(x.count(1), 1);
        due(say(x, "post 9 1;"), -2000);
        due(say(x, "post 1 16;"), -2000);
        due(say(x, "post 1 1;post 2 1;post 3 1;post 4 1;post 5 1;"), -2036);
        due(x.count(2), 1);
        due(say(x, "train 6 0 1 0;"), -2000);
        due(say(x, "train 0 10 1 0;"), -2000);
        due(say(x, "train 0 0 0 0;"), -2000);
        due(say(x, "train 0 0 1 2;"), -2000);
        due(say(x, "cells 1;"), -2000);
        due(say(x, "cells 25;"), -2000);
        due(say(x, "cells 4;post 4 1;"), -2008);
        due(x.count(0), 24);
        due(say(x, "cells 9;post 2 1;cells 24;post 9 1;"), 4);
        due(x.count(2), 2);
        due(x.ofPost(0, 0), 2);
        due(x.ofPost(1, 0), 9);
        due(x.count(11) + x.count(12) + x.count(13) + x.count(14) + x.count(16), 0);
    }

    private static void tellsPlaces() {
        start("3, places");
        SignalsSighted x = told("place a 15;place b 1;place c 15;place d 3;", "place b 2;place a 4;");
        due(x.count(5), 4);
        due(x.name(0, 0), 'a');
        due(x.placeAt(0), 4);
        due(x.placeAt(1), 2);
        due(say(x, "cells 4;cells 16;place c 5;place a 6;"), 4);
        due(x.count(5), 4);
        due(x.name(0, 0), 'b');
        due(x.name(1, 0), 'd');
        due(x.name(2, 0), 'c');
        due(x.name(3, 0), 'a');
        due(x.placeAt(3), 6);
        due(say(x, "place aa 1;place ab 1;place ac 1;place ad 1;place ae 1;"), -2044);
        due(x.count(5), 4);
        due(say(x, "place aa 1;place ab 1;place ac 1;place ad 1;place b 9;"), 5);
        due(x.count(5), 8);
        due(x.placeAt(0), 9);
        due(say(x, "place zz 1;"), -2000);
        due(say(x, "place b 16;"), -2000);
        due(x.placeAt(0), 9);
        due(x.name(7, 1), 'd');
    }

    private static void cells() {
        start("4");
        SignalsSighted x = told("ground 5 20;bridge 5 1 2;bridge 1 3 4;bridge 4 5 6;", "post 5 1;post 2 2;place p 5;place q 0;");
        due(x.cells(1), -4);
        due(x.cells(25), -6);
        due(x.cells(5), 16);
        due(x.count(1), 2);
        due(x.ofBridge(0, 0), 1);
        due(x.ofBridge(1, 1), 5);
        due(x.count(2), 1);
        due(x.ofPost(0, 1), 2);
        due(x.count(5), 1);
        due(x.name(0, 0), 'q');
        due(x.height(5), -1);
        due(x.cells(24), 5);
        due(x.height(5), 10);
        due(x.height(23), 10);
        due(x.height(24), -1);
        due(x.ground(23, 1), 10);
        due(x.cells(24), 24);
        due(x.height(23), 1);
        due(x.cells(2), 24);
        due(x.count(0), 2);
        due(x.count(14), 1);
        due(x.count(16), 1);
    }

    private static void ground() {
        start("5");
        SignalsSighted x = new SignalsSighted();
        due(x.ground(-1, 0), -1);
        due(x.ground(16, -1), -1);
        due(x.ground(0, -1), -4);
        due(x.ground(0, 31), -6);
        due(x.ground(0, 0), 10);
        due(x.ground(15, 30), 10);
        due(x.ground(0, 7), 0);
        due(x.height(15), 30);
        due(x.height(0), 7);
    }

    private static void bridge() {
        start("6");
        SignalsSighted x = new SignalsSighted();
        due(x.bridge(-1, -1, 70), -1);
        due(x.bridge(16, 1, 2), -1);
        due(x.bridge(0, 61, -1), -4);
        due(x.bridge(0, -1, 5), -4);
        due(x.bridge(0, 61, 5), -6);
        due(x.bridge(0, 5, 61), -6);
        due(x.bridge(0, 6, 5), -3);
        due(x.bridge(3, 0, 0), 0);
        due(x.bridge(3, 60, 60), 1);
        due(x.bridge(0, 5, 6), 2);
        due(x.bridge(1, 5, 6), 3);
        due(x.bridge(1, 6, 5), -6);
        due(x.bridge(1, -1, 5), -4);
        due(x.count(1), 4);
        due(x.count(11), 2);
        due(x.count(13), 1);
        due(x.count(14), 3);
        due(x.count(16), 3);
    }

    private static void fells() {
        start("7");
        SignalsSighted x = told("bridge 1 11 12;bridge 2 21 22;bridge 3 31 32;");
        due(x.fells(-1), -1);
        due(x.fells(3), -1);
        due(x.fells(1), 2);
        due(x.ofBridge(0, 0), 1);
        due(x.ofBridge(1, 0), 3);
        due(x.ofBridge(1, 1), 31);
        due(x.ofBridge(1, 2), 32);
        due(x.fells(1), 1);
        due(x.fells(0), 0);
        due(x.fells(0), -1);
        due(x.bridge(5, 1, 1), 0);
    }

    private static void post() {
        start("8");
        SignalsSighted x = new SignalsSighted();
        due(x.post(16, -1), -1);
        due(x.post(-1, 1), -1);
        due(x.post(0, -1), -4);
        due(x.post(0, 16), -6);
        due(x.post(0, 15), 0);
        due(x.post(0, 16), -6);
        due(x.post(0, 1), -3);
        for (int p = 1; p < 5; p++) {
            due(x.post(p, 0), p);
        }
        due(x.post(0, 1), -6);
        due(x.post(9, 1), -6);
        due(x.post(9, -1), -4);
        due(x.count(2), 5);
        due(x.count(13), 1);
    }

    private static void sets() {
        start("9");
        SignalsSighted x = told("post 3 4;post 15 15;");
        due(x.sets(2, 1, 1), -1);
        due(x.sets(-1, 1, 1), -1);
        due(x.sets(0, 16, -1), -1);
        due(x.sets(0, 15, -1), -4);
        due(x.sets(0, 15, 16), -6);
        due(x.sets(0, 15, 1), -3);
        due(x.sets(0, 3, 5), 304);
        due(x.sets(0, 0, 15), 305);
        due(x.sets(1, 3, 0), 1515);
        due(x.ofPost(0, 0), 0);
        due(x.ofPost(0, 1), 15);
        due(x.ofPost(1, 0), 3);
        due(x.ofPost(1, 1), 0);
    }

    private static void train() {
        start("10");
        SignalsSighted x = new SignalsSighted();
        due(x.train(-1, -1, 0, 0), -2);
        due(x.train(6, 0, 1, 0), -2);
        due(x.train(0, -1, 1, -1), -2);
        due(x.train(0, 0, 1, 2), -2);
        due(x.train(0, -1, 10, 0), -4);
        due(x.train(0, 10, 0, 0), -4);
        due(x.train(0, 10, 1, 0), -6);
        due(x.train(0, 0, 10, 0), -6);
        due(x.train(5, 9, 9, 1), 0);
        due(x.train(0, 0, 1, 0), 1);
        due(x.train(0, 0, 1, 0), 2);
        due(x.train(0, 0, 1, 0), 3);
        due(x.train(0, 0, 1, 0), -6);
        due(x.train(0, 0, 0, 0), -4);
        due(x.train(6, 0, 1, 0), -2);
        due(x.count(3), 4);
        due(x.count(12), 5);
    }

    private static void need() {
        start("11");
        SignalsSighted x = new SignalsSighted();
        due(x.need(-1), -4);
        due(x.need(100), -6);
        due(x.need(99), 10);
        due(x.need(0), 99);
        due(x.need(7), 0);
        due(x.count(4), 7);
    }

    private static void ofOnes() {
        start("12");
        SignalsSighted x = told("bridge 7 20 30;post 8 9;train 2 3 4 1;");
        due(x.ofBridge(0, 0), 7);
        due(x.ofBridge(0, 1), 20);
        due(x.ofBridge(0, 2), 30);
        due(x.ofBridge(1, 3), -1);
        due(x.ofBridge(-1, 0), -1);
        due(x.ofBridge(0, 3), -2);
        due(x.ofBridge(0, -1), -2);
        start("13");
        due(x.ofPost(0, 0), 8);
        due(x.ofPost(0, 1), 9);
        due(x.ofPost(1, 2), -1);
        due(x.ofPost(-1, 0), -1);
        due(x.ofPost(0, 2), -2);
        due(x.ofPost(0, -1), -2);
        start("14");
        for (int what = 0; what < 4; what++) {
            due(x.ofTrain(0, what), new int[] {2, 3, 4, 1}[what]);
        }
        due(x.ofTrain(0, 5), -2);
        due(x.ofTrain(0, -1), -2);
        due(x.ofTrain(1, 5), -1);
        due(x.ofTrain(-1, 0), -1);
        SignalsSighted eyes = told("train 0 7 4 0;train 1 7 4 0;train 2 7 4 0;train 3 7 4 0;");
        due(eyes.ofTrain(0, 4), 3);
        due(eyes.ofTrain(1, 4), 4);
        due(eyes.ofTrain(2, 4), 2);
        due(eyes.ofTrain(3, 4), 5);
        eyes = told("train 4 7 4 0;train 4 0 4 0;train 5 7 4 0;");
        due(eyes.ofTrain(0, 4), 9);
        due(eyes.ofTrain(1, 4), 2);
        due(eyes.ofTrain(2, 4), 0);
    }

    private static void height() {
        start("15");
        SignalsSighted x = told("ground 3 0;cells 17;");
        due(x.height(3), 0);
        due(x.height(16), 10);
        due(x.height(17), -1);
        due(x.height(-1), -1);
    }

    private static void time() {
        start("16");
        SignalsSighted x = told("ground 3 14;bridge 3 1 2;bridge 3 4 5;bridge 2 0 0;", "train 0 6 5 0;train 1 6 5 0;train 2 6 5 0;train 3 6 5 0;");
        due(x.time(0, 2), 5);
        due(x.time(1, 2), 9);
        due(x.time(1, 3), 5);
        due(x.time(1, 15), 5);
        due(x.time(2, 2), 3);
        due(x.time(3, 2), 15);
        due(x.time(3, 3), 11);
        due(x.time(3, 4), 5);
        due(x.time(4, 0), -1);
        due(x.time(0, 16), -1);
        due(x.time(-1, 0), -1);
        due(x.time(0, -1), -1);
        SignalsSighted y = told("ground 0 30;ground 1 0;train 4 0 5 1;train 4 0 4 1;train 4 0 2 1;train 5 0 9 1;");
        due(y.time(0, 1), 2);
        due(y.time(1, 1), 1);
        due(y.time(2, 1), 1);
        due(y.time(3, 1), 78);
        due(y.time(3, 0), 18);
        due(y.time(3, 2), 18);
    }

    private static void sight() {
        start("17");
        SignalsSighted x = told("ground 0 0;ground 1 0;ground 2 0;ground 3 0;ground 4 1;");
        due(x.sight(0, 0, 3, 1), 1);
        due(x.sight(0, 0, 3, 0), 0);
        due(x.sight(3, 1, 0, 0), 1);
        due(x.sight(0, 0, 1, 0), 1);
        due(x.sight(3, 0, 5, 0), 1);
        due(x.bridge(1, 1, 2), 0);
        due(x.sight(0, 0, 3, 3), 0);
        due(x.sight(0, 0, 3, 2), 1);
        due(x.sight(0, 0, 3, 6), 0);
        due(x.sight(0, 0, 3, 7), 1);
        due(x.sight(3, 7, 0, 0), 1);
        due(x.sight(1, 0, 3, 3), 1);
        due(x.sight(0, 60, 15, 60), 1);
        due(x.sight(3, -1, 3, 61), -1);
        due(x.sight(-1, 1, 3, 1), -1);
        due(x.sight(1, 1, 16, 1), -1);
        due(x.sight(1, -1, 3, 61), -4);
        due(x.sight(1, 61, 3, -1), -4);
        due(x.sight(1, 61, 3, 1), -6);
        due(x.sight(1, 1, 3, 61), -6);
    }

    private static void sees() {
        start("18");
        SignalsSighted x = told("post 5 0;train 0 0 1 0;train 0 0 1 1;ground 8 13;");
        due(x.sees(0, 0, 4), 1);
        due(x.sees(0, 0, 0), 1);
        due(x.sees(0, 0, 5), 0);
        due(x.sees(0, 0, 6), 0);
        due(x.sees(1, 0, 6), 1);
        due(x.sees(1, 0, 8), 1);
        due(x.sees(1, 0, 9), 0);
        due(x.sees(1, 0, 5), 0);
        due(x.sees(1, 0, 4), 0);
        due(x.sees(2, 0, 4), -1);
        due(x.sees(0, 1, 4), -1);
        due(x.sees(0, 0, 16), -1);
        due(x.sees(0, 0, -1), -1);
    }

    private static void firstAndWarned() {
        start("19, 20");
        // The hill at 3 hides the post from 2; what cell 0 sees again is behind the break.
        SignalsSighted x = told("post 6 1;ground 0 30;ground 3 14;train 1 0 2 0;train 1 0 2 1;train 5 0 2 0;");
        due(x.sees(0, 0, 3), 1);
        due(x.sees(0, 0, 2), 0);
        due(x.sees(0, 0, 0), 1);
        due(x.first(0, 0), 3);
        due(x.warned(0, 0), 6);
        due(x.first(1, 0), 15);
        due(x.warned(1, 0), 18);
        due(x.first(2, 0), 3);
        due(x.warned(2, 0), 12);
        due(x.sets(0, 0, 1), 601);
        due(x.first(0, 0), -9);
        due(x.warned(0, 0), 0);
        due(x.sets(0, 15, 0), 1);
        due(x.first(1, 0), -9);
        due(x.warned(1, 0), 0);
        due(x.first(2, 0), 14);
        due(x.warned(2, 0), 4);
        due(x.first(3, 0), -1);
        due(x.first(0, 1), -1);
        due(x.warned(3, 0), -1);
        due(x.warned(0, 1), -1);
        due(x.count(11), 4);
    }

    private static void safe() {
        start("21");
        SignalsSighted x = told("post 5 1;");
        due(x.safe(), 1);
        due(x.train(0, 0, 2, 0), 0);
        due(x.safe(), 1);
        due(x.need(11), 10);
        due(x.safe(), 0);
        due(x.need(0), 11);
        due(x.post(0, 1), 1);
        due(x.safe(), 1);
        due(x.need(1), 0);
        due(x.safe(), 0);
    }

    private static void moved() {
        start("22");
        SignalsSighted x = new SignalsSighted();
        due(x.moved(-1), 0);
        due(x.moved(0), -1);
        due(x.moved(-2), -1);
        due(say(x, "post 1 1;post 0 1;train 0 0 2 0;"), 3);
        due(x.moved(-1), 10);
        due(x.moved(0), 6);
        due(x.moved(1), 5);
        due(x.moved(2), -1);
        due(x.ofPost(0, 0), 1);
        due(x.need(30), 10);
        due(x.moved(-1), -9);
        due(x.moved(0), -9);
        due(x.need(28), 30);
        due(x.moved(-1), 28);
        due(x.need(2), 28);
        due(x.moved(-1), 2);
        // Under the bridge the post is seen from 6 alone; at 6 and at 8 from two cells and more.
        SignalsSighted y = told("post 7 0;train 0 0 1 0;need 2;bridge 6 11 12;");
        due(y.warned(0, 0), 1);
        due(y.moved(-1), 1);
        due(y.moved(0), 6);
        due(y.post(6, 0), 1);
        due(y.moved(-1), 1);
        due(y.moved(0), 8);
        due(y.moved(1), 6);
        due(y.sets(0, 8, 0), 700);
        due(y.moved(-1), 0);
        // Posts 0 and 1 are at 8 and 7: both may give way, post 0 is asked first.
        due(y.sets(1, 7, 0), 600);
        due(y.moved(-1), 1);
        due(y.moved(0), 8);
        due(y.moved(1), 6);
    }

    private static void raised() {
        start("23");
        SignalsSighted x = told("ground 6 13;post 8 0;need 8;");
        due(x.raised(0), 0);
        due(say(x, "train 0 0 2 0;"), 1);
        due(x.raised(1), -1);
        due(x.raised(-1), -1);
        // From 5 and 4 (13 there) over the hill of 13 at 6: more than 13 at 8.
        due(x.raised(0), 4);
        due(x.ofPost(0, 1), 0);
        due(x.need(16), 8);
        due(x.raised(0), 4);
        due(x.need(17), 16);
        due(x.raised(0), -9);
        due(x.need(4), 17);
        due(x.raised(0), 0);
    }

    private static void freed() {
        start("24");
        SignalsSighted x = told("bridge 4 11 12;bridge 12 30 40;post 5 1;train 0 0 4 0;");
        due(x.first(0, 0), 4);
        due(x.freed(0), 1);
        due(x.freed(1), 0);
        due(x.freed(2), FAR + 1);
        due(x.freed(-1), FAR + 1);
        due(x.count(11), 2);
        SignalsSighted y = told("bridge 4 40 41;post 5 1;post 6 1;train 3 9 1 0;need 14;");
        due(y.warned(0, 0), 14);
        due(y.freed(0), -2);
    }

    private static void worst() {
        start("25");
        SignalsSighted x = told("post 9 1;");
        due(x.worst(), -9);
        due(x.train(0, 0, 3, 0), 0);
        due(x.worst(), 0);
        due(x.train(0, 0, 2, 0), 1);
        due(x.train(0, 0, 2, 0), 2);
        due(x.worst(), 1);
        due(x.post(8, 1), 1);
        due(x.worst(), 11);
        due(x.post(0, 1), 2);
        due(x.worst(), 20);
    }

    private static void slowest() {
        start("26");
        SignalsSighted x = told("post 4 1;train 0 0 9 0;train 2 0 1 0;train 4 0 1 0;");
        due(x.slowest(0, 0), 3);
        due(x.slowest(1, 0), 5);
        due(x.slowest(2, 0), 7);
        due(x.need(17), 10);
        due(x.slowest(2, 0), -9);
        due(x.slowest(0, 0), 5);
        due(x.need(0), 17);
        due(x.slowest(0, 0), 1);
        due(x.slowest(3, 0), -1);
        due(x.slowest(0, 1), -1);
        due(x.ofTrain(0, 2), 9);
    }

    private static void atOnceMostNearest() {
        start("27, 28, 29");
        SignalsSighted x = told("train 0 0 1 0;train 0 0 1 1;");
        due(x.most(0, 0), 0);
        due(x.most(0, 1), 65535);
        due(x.nearest(0, 3), -9);
        due(say(x, "post 9 1;post 4 1;post 12 9;ground 7 30;"), 4);
        due(x.atOnce(0, 0), 1);
        due(x.atOnce(0, 4), 0);
        due(x.atOnce(0, 7), 2);
        due(x.atOnce(0, 9), 1);
        due(x.atOnce(1, 15), 2);
        due(x.atOnce(1, 7), 1);
        due(x.most(0, 0), 7);
        due(x.most(1, 0), 13);
        due(x.most(0, 1), 1 << 4 | 1 << 5 | 1 << 6 | 1 << 12 | 1 << 13 | 1 << 14 | 1 << 15);
        due(x.nearest(0, 0), 1);
        due(x.nearest(0, 4), -9);
        due(x.nearest(0, 8), 0);
        due(x.nearest(1, 15), 2);
        due(x.nearest(1, 12), 0);
        due(x.nearest(2, 0), -1);
        due(x.nearest(0, 16), -1);
        due(x.atOnce(2, 0), -1);
        due(x.atOnce(0, 16), -1);
        due(x.most(2, 2), -1);
        due(x.most(0, 2), -2);
        due(x.most(0, -1), -2);
    }

    private static void shadow() {
        start("30");
        SignalsSighted x = told("bridge 4 11 12;bridge 12 0 60;post 6 1;train 0 0 4 0;train 0 0 4 1;");
        // From c (13 there) to 11 at 6 the line is at 11 and 4 / (6 - c) at 4: from 2 just 12.
        due(x.shadow(0, 0, 0), 0b111);
        due(x.shadow(1, 0, 0), 0);
        due(x.shadow(1, 1, 0), 0b1110000000000000);
        due(x.shadow(0, 1, 0), 0);
        due(x.bridge(4, 11, 12), 2);
        due(x.shadow(0, 0, 0), 0);
        due(x.shadow(3, 0, 0), -1);
        due(x.shadow(0, 2, 0), -1);
        due(x.shadow(0, 0, 1), -1);
    }

    private static void alike() {
        start("31");
        SignalsSighted x = new SignalsSighted();
        due(x.alike(0, 2), -4);
        due(x.alike(9, 2), -6);
        due(x.alike(8, 2), -2);
        due(x.alike(8, -1), -2);
        due(x.alike(8, 0), 1);
        due(x.alike(8, 1), 0);
        due(x.cells(4), 16);
        due(x.alike(5, 0), -6);
        due(x.alike(4, 0), 1);
        due(x.alike(4, 1), -9);
        due(say(x, "cells 6;ground 0 1;ground 1 3;ground 2 4;ground 3 6;ground 4 0;ground 5 2;"), 7);
        due(x.alike(2, 0), 3);
        due(x.alike(2, 1), 0);
        due(x.alike(1, 0), 1);
        due(say(x, "bridge 0 1 2;bridge 2 3 4;bridge 2 7 9;"), 3);
        due(x.alike(2, 0), 4);
        due(x.alike(2, 1), 0);
        due(x.fells(0), 2);
        due(x.alike(2, 0), 4);
        due(x.alike(2, 1), 0);
        due(x.alike(3, 1), -9);
        due(x.alike(3, 0), 4);
    }

    private static void steepest() {
        start("32");
        SignalsSighted x = told("ground 3 5;ground 8 15;");
        due(x.steepest(1), -4);
        due(x.steepest(9), -6);
        due(x.steepest(2), 2);
        due(x.steepest(6), 3);
        due(x.steepest(8), 1);
        due(x.ground(8, 16), 15);
        due(x.steepest(2), 7);
        due(x.cells(3), 16);
        due(x.steepest(4), -6);
        due(x.steepest(3), 0);
    }

    private static void down() {
        start("33");
        SignalsSighted x = told("post 5 1;train 0 0 4 0;");
        due(x.down(2, 0), 1);
        due(x.down(2, 1), 1);
        due(x.need(21), 10);
        due(x.down(2, 0), 0);
        due(x.down(2, 1), 1);
        due(x.need(10), 21);
        due(x.bridge(4, 11, 12), 0);
        due(x.down(3, 0), 1);
        due(x.down(3, 1), 3);
        due(x.bridge(4, 11, 12), 1);
        due(x.down(3, 0), 1);
        due(x.down(3, 1), 9);
        due(x.bridge(12, 11, 12), 2);
        due(x.down(20, 0), 1);
        due(x.down(20, 1), 400);
        due(x.bridge(3, 0, 50), 3);
        due(x.down(2, 0), 1);
        due(x.down(2, 1), 8);
        due(x.down(1, 2), FAR + 4);
        due(x.down(21, 2), FAR + 6);
        due(x.down(20, 2), FAR + 2);
        due(x.down(20, -1), FAR + 2);
        // Safe only with the bridge: the tank takes its figure more under it.
        SignalsSighted y = told("bridge 4 40 41;post 5 1;train 3 9 1 0;need 14;");
        due(y.down(4, 0), 3);
        due(y.down(4, 1), 4);
    }

    private static void mean() {
        start("34");
        SignalsSighted x = told("post 5 1;");
        due(x.mean(0), 0);
        due(x.mean(1), 1);
        due(x.train(0, 0, 4, 0), 0);
        due(x.mean(0), 20);
        due(x.mean(1), 1);
        due(x.train(0, 0, 3, 1), 1);
        due(x.post(0, 1), 1);
        // 20 and 30 of post 0, 0 and 45 of post 1: 95 by 4.
        due(x.mean(0), 95);
        due(x.mean(1), 4);
        due(x.sets(1, 1, 1), 1);
        // 20, 30, 4, 42: 96 by 4.
        due(x.mean(0), 24);
        due(x.mean(1), 1);
        due(x.mean(2), FAR + 2);
        due(x.mean(-1), FAR + 2);
        SignalsSighted y = told("post 0 1;train 0 0 1 0;train 0 0 1 0;");
        due(y.mean(0), 0);
        due(y.mean(1), 1);
    }

    private static void nameAndPlaceAt() {
        start("35, 36");
        SignalsSighted x = told("place zebra 3;place abcdefg 15;");
        due(x.name(0, -1), 5);
        due(x.name(0, 0), 'z');
        due(x.name(0, 4), 'a');
        due(x.name(0, 5), -1);
        due(x.name(0, -2), -1);
        due(x.name(1, 6), 'g');
        due(x.name(1, 7), -1);
        due(x.name(2, -1), -1);
        due(x.name(-1, -1), -1);
        due(x.placeAt(0), 3);
        due(x.placeAt(1), 15);
        due(x.placeAt(2), -1);
        due(x.placeAt(-1), -1);
        due(x.count(11), 7);
    }

    private static void shelf() {
        start("37");
        SignalsSighted x = new SignalsSighted();
        due(x.shelf(4, 2, 21), -1);
        due(x.shelf(-1, 0, 1), -1);
        due(x.shelf(0, 2, 21), -2);
        due(x.shelf(0, -2, 1), -2);
        due(x.shelf(0, 0, 21), -6);
        due(x.shelf(0, 0, -1), -14);
        due(x.shelf(0, -1, -5), 1);
        due(x.shelf(0, -1, 500), 1);
        due(x.shelf(0, 0, 20), 1);
        due(x.look(0, 19), 0);
        due(x.put(0, 19, 5), 1);
        due(x.shelf(0, 1, 20), 1);
        due(x.look(0, 19), 0);
        due(x.shelf(0, 1, 0), 1);
        due(x.look(0, 0), FAR + 13);
        due(x.shelf(0, -1, 3), 1);
        due(x.look(0, 0), FAR + 11);
        due(x.count(16), 1);
        due(x.count(12), 2);
    }

    private static void layAndTaken() {
        start("38, 41");
        SignalsSighted x = new SignalsSighted();
        due(x.image(), 0);
        due(say(x, "train 3 0 1 0;train 4 5 1 0;train 0 0 1 0;"), 3);
        due(x.lay(4, 0), -1);
        due(x.lay(0, 3), -1);
        due(x.lay(0, 0), 1);
        due(x.lay(1, 1), 1);
        due(x.lay(3, 2), 1);
        due(x.on(), 0);
        due(x.count(3), 0);
        int[] tank = {5, 5, -12, 5, -12, -12};
        int[] mail = {7, -12, 7, -12, 7, -12};
        int[] plain = {3, -12, -12, -12, -12, -12};
        for (int kind = 0; kind < 6; kind++) {
            due(x.taken(0, kind), tank[kind]);
            due(x.taken(1, kind), mail[kind]);
            due(x.taken(3, kind), plain[kind]);
        }
        due(x.taken(4, 6), -1);
        due(x.taken(2, 6), -2);
        due(x.taken(2, -1), -2);
        due(x.taken(2, 0), -11);
        due(x.shelf(2, 1, 1), 1);
        due(x.taken(2, 0), -12);
        due(x.count(11), 3);
    }

    private static void putAndLook() {
        start("39, 40");
        SignalsSighted x = told("train 0 0 1 0;");
        due(x.lay(3, 0), 1);
        due(x.shelf(0, 0, 2), 1);
        due(x.shelf(1, 1, 20), 1);
        due(x.put(0, 1, 128), 1);
        due(x.look(0, 1), -128);
        due(x.put(0, 1, -1), 1);
        due(x.look(0, 1), -1);
        due(x.put(0, 0, 0x123456789abL), 1);
        due(x.look(0, 0), -85);
        due(x.put(1, 19, Long.MIN_VALUE), 1);
        due(x.look(1, 19), Long.MIN_VALUE);
        due(x.put(4, 0, 0), -1);
        due(x.put(-1, 0, 0), -1);
        due(x.put(2, -1, 0), -11);
        due(x.put(3, -1, 0), -12);
        due(x.put(0, 2, 0), -13);
        due(x.put(0, -1, 0), -13);
        due(x.look(4, 0), FAR + 1);
        due(x.look(-1, 0), FAR + 1);
        due(x.look(2, -1), FAR + 11);
        due(x.look(3, -1), FAR + 12);
        due(x.look(0, 2), FAR + 13);
        due(x.look(0, -1), FAR + 13);
        due(x.count(11), 4);
    }

    private static void whatIs() {
        start("42");
        SignalsSighted x = told("cells 3;ground 1 12;bridge 1 1 2;train 3 6 3 0;train 2 0 4 1;");
        due(x.shelf(0, 0, 20), 1);
        due(x.shelf(1, 1, 3), 1);
        due(x.whatIs(0, 0, 0), 0);
        due(x.put(0, 0, 5), 1);
        due(x.put(0, 1, 9), 1);
        due(x.put(0, 2, 3), 1);
        due(x.put(0, 3, 99), 1);
        due(x.whatIs(0, 0, 0), 1 << 3);
        due(x.whatIs(0, 0, 1), 1 << 6);
        due(x.put(0, 1, 3), 1);
        due(x.whatIs(0, 0, 0), 1 << 1);
        due(x.whatIs(0, 0, 1), 1);
        due(x.put(0, 0, 2), 1);
        due(x.put(0, 1, 2), 1);
        due(x.put(0, 2, 2), 1);
        due(x.whatIs(0, 1, 0), 1 << 2);
        due(x.whatIs(0, 1, 1), 1023);
        due(x.put(0, 0, 258), 1);
        due(x.whatIs(0, 1, 0), 1 << 2);
        due(x.shelf(2, 0, 0), 1);
        due(x.whatIs(2, 0, 0), 63);
        due(x.whatIs(2, 0, 1), 1023);
        due(x.whatIs(4, 0, 2), -1);
        due(x.whatIs(0, 2, 2), -1);
        due(x.whatIs(3, 0, 2), -2);
        due(x.whatIs(0, 0, -1), -2);
        due(x.whatIs(3, 0, 0), -11);
        due(x.whatIs(1, 0, 0), -12);
        due(x.lay(3, 0), 1);
        due(x.whatIs(3, 0, 0), -12);
        due(x.ofTrain(0, 0), 3);
        due(x.ofTrain(0, 1), 6);
    }

    private static void judge() {
        start("43");
        SignalsSighted x = told("post 5 1;post 3 1;train 0 0 4 0;");
        due(x.shelf(0, 1, 2), 1);
        due(x.judge(0, 0), 0);
        due(x.put(0, 0, 20), 1);
        due(x.judge(0, 0), 1);
        due(x.put(0, 1, 12), 1);
        due(x.judge(0, 0), -9);
        due(x.put(0, 1, 12 + (1L << 32)), 1);
        due(x.judge(0, 0), 1);
        due(x.shelf(0, 1, 0), 1);
        due(x.judge(0, 0), -9);
        due(x.shelf(0, 1, 1), 1);
        due(x.put(0, 0, 20), 1);
        due(x.judge(0, 0), -9);
        due(x.shelf(0, 1, 3), 1);
        due(x.put(0, 0, 20), 1);
        due(x.put(0, 1, 12), 1);
        due(x.judge(0, 0), 2);
        due(x.judge(4, 0), -1);
        due(x.judge(0, 1), -1);
        due(x.judge(1, 0), -11);
        due(x.shelf(1, 0, 2), 1);
        due(x.judge(1, 0), -12);
        due(x.lay(1, 0), 1);
        due(x.judge(1, 0), -12);
    }

    private static void lots() {
        start("44");
        SignalsSighted x = told("cells 2;post 1 1;train 1 0 1 0;");
        // From 0 the draws are 3, 17 | 25, 20 | 27, 8; from -77 26, 30 | 22, 28 | 7, 27 | 28, 19.
        due(x.lots(1, 0, 1), 15);
        due(x.lots(3, 0, 1), 17);
        due(x.lots(4, -77, 1), 34);
        due(x.lots(4, -77, 0), 1);
        due(x.lots(2, -77, 0), 0);
        due(x.need(7), 10);
        due(x.lots(4, -77, 0), 2);
        due(x.height(0), 10);
        due(x.height(1), 10);
        due(x.lots(0, 1, 2), -4);
        due(x.lots(21, 1, 2), -6);
        due(x.lots(20, 1, 2), -2);
        due(x.lots(20, 1, -1), -2);
        SignalsSighted y = new SignalsSighted();
        due(y.lots(7, 1, 0), 7);
        due(y.lots(7, 1, 1), 0);
    }

    private static void image() {
        start("45, 46");
        SignalsSighted x = told("ground 2 3;bridge 4 5 6;post 5 1;train 0 0 4 0;need 7;place here 8;");
        due(x.on(), -3);
        due(x.count(13), 1);
        due(x.image(), 1);
        due(say(x, "cells 3;cells 24;ground 2 9;post 1 1;train 1 1 1 1;place there 2;need 1;"), 7);
        due(x.post(7, 7), 1);
        due(x.letter('n'), 1);
        due(x.shelf(0, 0, 3), 1);
        due(x.on(), 1);
        due(x.count(0), 16);
        due(x.height(2), 3);
        due(x.ofBridge(0, 0), 4);
        due(x.ofPost(0, 0), 5);
        due(x.count(3), 1);
        due(x.count(4), 7);
        due(x.count(5), 1);
        due(x.name(0, -1), 4);
        due(x.placeAt(0), 8);
        due(x.count(6), 1);
        due(x.look(0, 2), 0);
        due(x.count(13), 1);
        due(x.cells(24), 16);
        due(x.height(16), 10);
        due(x.sets(0, 23, 2), 501);
        due(x.on(), 1);
        due(x.ofPost(0, 0), 5);
        due(x.image(), 1);
    }

    private static void count() {
        start("47");
        SignalsSighted x = told("cells 20;bridge 4 0 1;bridge 4 0 1;post 5 1;post 1 1;post 0 1;", "train 0 0 4 0;need 12;place a 1;");
        int[] due = {20, 2, 3, 1, 12, 1, 0, 1};
        for (int what = 0; what < due.length; what++) {
            due(x.count(what), due[what]);
        }
        due(x.height(99), -1);
        due(x.ofPost(0, 9), -2);
        due(x.post(0, 1), -3);
        due(x.need(-1), -4);
        due(x.need(100), -6);
        due(x.need(100), -6);
        due(x.mean(9), FAR + 2);
        due(x.put(0, 0, 0), -11);
        due(x.shelf(0, 0, -1), -14);
        int[] refused = {1, 2, 1, 1, 0, 2};
        for (int i = 0; i < refused.length; i++) {
            due(x.count(11 + i), refused[i]);
        }
        due(x.count(-1), -9);
        for (int what = 8; what <= 10; what++) {
            due(x.count(what), -9);
        }
        due(x.count(17), -9);
        due(x.count(12), 2);
    }
}
