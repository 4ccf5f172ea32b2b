import java.math.BigInteger;
import java.util.ArrayList;
import java.util.LinkedHashMap;
import java.util.List;
import java.util.Map;
import java.util.Random;
import java.util.regex.Matcher;
import java.util.regex.Pattern;

/**
 * Runs of calls by a fixed seed, held against a second, slow reading of the document that
 * tries everything out by the words of its terms.
 */
public final class ModelTest {
    private static final int RUNS = 600;
    private static final int CALLS = 512;
    private static int wrong = 0;

    public static void main(String[] args) {
        for (int run = 0; run < RUNS && wrong < 20; run++) {
            new Run(run).go();
        }
        System.out.println(wrong == 0 ? RUNS + " runs are as the model" : wrong + " answers are not as the model");
        if (wrong != 0) {
            System.exit(1);
        }
    }

    /** One run of random calls, each made on both. */
    private static final class Run {
        final int number;
        final Random r;
        final SignalsSighted x = new SignalsSighted();
        final Model m = new Model();
        final StringBuilder log = new StringBuilder();
        int calls = 0;

        Run(int number) {
            this.number = number;
            this.r = new Random(number * 7919L + 17);
        }

        void go() {
            if (number % 3 != 0) {
                prepare();
            }
            int before = wrong;
            while (calls < CALLS && wrong == before) {
                call(r.nextInt(46));
            }
            if (wrong != before) {
                System.out.println(log);
            }
        }

        void due(String call, long got, long want) {
            calls++;
            log.append(call).append(" = ").append(got).append('\n');
            if (got != want) {
                wrong++;
                System.out.println("run " + number + ": " + call + " answered " + got + ", the model " + want);
            }
        }

        /** Ground of few heights and a full line, so that sight is now clear and now not. */
        void prepare() {
            int n = 2 + r.nextInt(23);
            due("cells(" + n + ")", x.cells(n), m.cells(n));
            int spread = 1 + r.nextInt(6);
            for (int c = 0; c < n; c++) {
                int v = 5 + r.nextInt(spread);
                due("ground(" + c + "," + v + ")", x.ground(c, v), m.ground(c, v));
            }
            for (int i = 0; i < 4; i++) {
                bridge(r.nextInt(n), 5 + r.nextInt(12), 8 + r.nextInt(12));
                post(r.nextInt(n), r.nextInt(16));
                train(r.nextInt(6), r.nextInt(10), 1 + r.nextInt(9), r.nextInt(4) / 3);
            }
            int need = r.nextInt(20);
            due("need(" + need + ")", x.need(need), m.need(need));
        }

        /** Mostly within 0 .. most, now and then just outside, seldom far off. */
        int some(int most) {
            int dice = r.nextInt(40);
            if (dice == 0) {
                return -1 - r.nextInt(3);
            }
            if (dice == 1) {
                return most + 1 + r.nextInt(3);
            }
            if (dice == 2) {
                int[] odd = {Integer.MIN_VALUE, Integer.MAX_VALUE, -100, 100, 1 << 30};
                return odd[r.nextInt(odd.length)];
            }
            return r.nextInt(most + 1);
        }

        int cell() {
            return some(m.n - 1);
        }

        int trainNumber() {
            return some(Math.max(0, m.trains.size() - 1));
        }

        int postNumber() {
            return some(Math.max(0, m.posts.size() - 1));
        }

        int bridgeNumber() {
            return some(Math.max(0, m.bridges.size() - 1));
        }

        void bridge(int c, int low, int high) {
            due("bridge(" + c + "," + low + "," + high + ")", x.bridge(c, low, high), m.bridge(c, low, high));
        }

        void post(int c, int tall) {
            due("post(" + c + "," + tall + ")", x.post(c, tall), m.post(c, tall));
        }

        void train(int k, int f, int s, int w) {
            due("train(" + k + "," + f + "," + s + "," + w + ")", x.train(k, f, s, w), m.train(k, f, s, w));
        }

        void call(int which) {
            if (which < 23) {
                callLine(which);
            } else {
                callRest(which);
            }
        }

        void callLine(int which) {
            int a = cell();
            int b = cell();
            int t = trainNumber();
            int p = postNumber();
            int g = bridgeNumber();
            switch (which) {
                case 0: { int c = some(255); due("letter(" + c + ")", x.letter(c), m.letter(c)); break; }
                case 1: speak(); break;
                case 2: {
                    if (r.nextInt(3) == 0) {
                        int n = some(24);
                        due("cells(" + n + ")", x.cells(n), m.cells(n));
                    }
                    break;
                }
                case 3: { int v = some(30); due("ground(" + a + "," + v + ")", x.ground(a, v), m.ground(a, v)); break; }
                case 4: bridge(a, some(20), some(40)); break;
                case 5: {
                    if (r.nextInt(2) == 0) {
                        due("fells(" + g + ")", x.fells(g), m.fells(g));
                    }
                    break;
                }
                case 6: post(a, some(15)); break;
                case 7: { int v = some(15); due("sets(" + p + "," + a + "," + v + ")", x.sets(p, a, v), m.sets(p, a, v)); break; }
                case 8: train(some(5), some(9), some(9), some(1)); break;
                case 9: { int v = r.nextInt(3) == 0 ? some(99) : some(30); due("need(" + v + ")", x.need(v), m.need(v)); break; }
                case 10: { int w = some(2); due("ofBridge(" + g + "," + w + ")", x.ofBridge(g, w), m.ofBridge(g, w)); break; }
                case 11: { int w = some(1); due("ofPost(" + p + "," + w + ")", x.ofPost(p, w), m.ofPost(p, w)); break; }
                case 12: { int w = some(4); due("ofTrain(" + t + "," + w + ")", x.ofTrain(t, w), m.ofTrain(t, w)); break; }
                case 13: due("height(" + a + ")", x.height(a), m.height(a)); break;
                case 14: due("time(" + t + "," + a + ")", x.time(t, a), m.time(t, a)); break;
                case 15: {
                    int h = r.nextInt(2) == 0 ? some(60) : some(8);
                    int k = r.nextInt(2) == 0 ? some(60) : some(8);
                    due("sight(" + a + "," + h + "," + b + "," + k + ")", x.sight(a, h, b, k), m.sight(a, h, b, k));
                    break;
                }
                case 16: due("sees(" + t + "," + p + "," + a + ")", x.sees(t, p, a), m.sees(t, p, a)); break;
                case 17: due("first(" + t + "," + p + ")", x.first(t, p), m.first(t, p)); break;
                case 18: due("warned(" + t + "," + p + ")", x.warned(t, p), m.warned(t, p)); break;
                case 19: due("safe()", x.safe(), m.safe()); break;
                case 20: { int q = r.nextInt(3) == 0 ? -1 : p; due("moved(" + q + ")", x.moved(q), m.moved(q)); break; }
                case 21: due("raised(" + p + ")", x.raised(p), m.raised(p)); break;
                default: due("freed(" + g + ")", x.freed(g), m.freed(g)); break;
            }
        }

        void callRest(int which) {
            int a = cell();
            int t = trainNumber();
            int p = postNumber();
            int s = some(3);
            switch (which) {
                case 23: due("worst()", x.worst(), m.worst()); break;
                case 24: due("slowest(" + t + "," + p + ")", x.slowest(t, p), m.slowest(t, p)); break;
                case 25: due("atOnce(" + t + "," + a + ")", x.atOnce(t, a), m.atOnce(t, a)); break;
                case 26: { int w = some(1); due("most(" + t + "," + w + ")", x.most(t, w), m.most(t, w)); break; }
                case 27: due("nearest(" + t + "," + a + ")", x.nearest(t, a), m.nearest(t, a)); break;
                case 28: {
                    int g = bridgeNumber();
                    due("shadow(" + g + "," + t + "," + p + ")", x.shadow(g, t, p), m.shadow(g, t, p));
                    break;
                }
                case 29: { int n = some(8); int w = some(1); due("alike(" + n + "," + w + ")", x.alike(n, w), m.alike(n, w)); break; }
                case 30: { int n = some(8); due("steepest(" + n + ")", x.steepest(n), m.steepest(n)); break; }
                case 31: { int o = some(20); int w = some(1); due("down(" + o + "," + w + ")", x.down(o, w), m.down(o, w)); break; }
                case 32: { int w = some(1); due("mean(" + w + ")", x.mean(w), m.mean(w)); break; }
                case 33: {
                    int k = some(7);
                    int i = r.nextInt(3) == 0 ? -1 : some(6);
                    due("name(" + k + "," + i + ")", x.name(k, i), m.name(k, i));
                    break;
                }
                case 34: { int k = some(7); due("placeAt(" + k + ")", x.placeAt(k), m.placeAt(k)); break; }
                case 35: {
                    int sort = r.nextInt(8) == 0 ? -1 : some(1);
                    int n = some(20);
                    due("shelf(" + s + "," + sort + "," + n + ")", x.shelf(s, sort, n), m.shelf(s, sort, n));
                    break;
                }
                case 36: due("lay(" + s + "," + t + ")", x.lay(s, t), m.lay(s, t)); break;
                case 37: {
                    int i = some(19);
                    long v = r.nextInt(2) == 0 ? r.nextInt(40) : r.nextLong();
                    due("put(" + s + "," + i + "," + v + ")", x.put(s, i, v), m.put(s, i, v));
                    break;
                }
                case 38: { int i = some(19); due("look(" + s + "," + i + ")", x.look(s, i), m.look(s, i)); break; }
                case 39: { int k = some(5); due("taken(" + s + "," + k + ")", x.taken(s, k), m.taken(s, k)); break; }
                case 40: guessKind(s, t); break;
                case 41: tellWarnings(s, t); break;
                case 42: {
                    int n = some(20);
                    int z = r.nextInt();
                    int w = some(1);
                    due("lots(" + n + "," + z + "," + w + ")", x.lots(n, z, w), m.lots(n, z, w));
                    break;
                }
                case 43: due("image()", x.image(), m.image()); break;
                case 44: {
                    if (r.nextInt(3) == 0) {
                        due("on()", x.on(), m.on());
                    }
                    break;
                }
                default: {
                    int w = some(17);
                    due("count(" + w + ")", x.count(w), m.count(w));
                    break;
                }
            }
        }

        /** Bytes that tell the times of a train, of its own kind or of another, seldom one wrong. */
        void guessKind(int s, int t) {
            int w = some(1);
            if (r.nextInt(2) == 0 && s >= 0 && s < 4 && t >= 0 && t < m.trains.size()) {
                int size = 1 + r.nextInt(6);
                due("shelf(" + s + ",0," + size + ")", x.shelf(s, 0, size), m.shelf(s, 0, size));
                Model.Train o = m.trains.get(t);
                Model.Train told = Model.Train.of(r.nextInt(6), r.nextInt(2) == 0 ? o.figure : r.nextInt(10), o.slow, o.way);
                for (int i = 0; i < size; i++) {
                    long v = i < m.n ? told.time(m, i, m.bridges) : 77;
                    if (r.nextInt(30) == 0) {
                        v += 256;
                    }
                    due("put(" + s + "," + i + "," + v + ")", x.put(s, i, v), m.put(s, i, v));
                }
            }
            due("whatIs(" + s + "," + t + "," + w + ")", x.whatIs(s, t, w), m.whatIs(s, t, w));
        }

        void tellWarnings(int s, int t) {
            if (r.nextInt(2) == 0 && s >= 0 && s < 4 && t >= 0 && t < m.trains.size()) {
                int size = r.nextInt(m.posts.size() + 2);
                due("shelf(" + s + ",1," + size + ")", x.shelf(s, 1, size), m.shelf(s, 1, size));
                for (int i = 0; i < size; i++) {
                    long v = i < m.posts.size() ? m.warned(t, i) : 0;
                    if (r.nextInt(10) == 0) {
                        v += 1L << 32;
                    }
                    due("put(" + s + "," + i + "," + v + ")", x.put(s, i, v), m.put(s, i, v));
                }
            }
            due("judge(" + s + "," + t + ")", x.judge(s, t), m.judge(s, t));
        }

        void speak() {
            StringBuilder text = new StringBuilder();
            int statements = r.nextInt(6);
            for (int i = 0; i < statements; i++) {
                text.append(statement());
            }
            if (text.length() > 0 && r.nextInt(4) == 0) {
                int at = r.nextInt(text.length());
                switch (r.nextInt(3)) {
                    case 0: text.setCharAt(at, "agp 9;z0".charAt(r.nextInt(8))); break;
                    case 1: text.deleteCharAt(at); break;
                    default: text.setLength(at); break;
                }
            }
            for (int i = 0; i < text.length() && calls < CALLS - 20; i++) {
                int c = text.charAt(i);
                due("letter(" + c + ")", x.letter(c), m.letter(c));
            }
            due("tells() of \"" + m.letters + "\"", x.tells(), m.tells());
            for (int k = 0; k < 3; k++) {
                int i = r.nextInt(8);
                due("placeAt(" + i + ")", x.placeAt(i), m.placeAt(i));
                due("name(" + i + ",0)", x.name(i, 0), m.name(i, 0));
            }
        }

        String number(int most) {
            int v = r.nextInt(12) == 0 ? r.nextInt(100) : r.nextInt(most + 1);
            return (v < 10 && r.nextInt(5) == 0 ? " 0" : " ") + v;
        }

        String statement() {
            int last = m.n - 1;
            switch (r.nextInt(12)) {
                case 0: return "ground" + number(last) + number(30) + ";";
                case 1: return "bridge" + number(last) + number(20) + number(60) + ";";
                case 2: return "post" + number(last) + number(15) + ";";
                case 3: return "train" + number(5) + number(9) + number(9) + number(1) + ";";
                case 4: return "need" + number(30) + ";";
                case 5: return "cells" + number(24) + ";";
                default: {
                    String[] names = {"a", "b", "ab", "mill", "millert", "place", "z", "yard", "x", "c", "abcdefgh"};
                    int pick = r.nextInt(30) == 0 ? 10 : r.nextInt(10);
                    return "place " + names[pick] + number(last) + ";";
                }
            }
        }
    }

    /** The document's words, tried out. */
    private static final class Model implements Cloneable {
        int n = 16;
        List<Integer> ground = new ArrayList<>();
        List<int[]> bridges = new ArrayList<>();
        List<int[]> posts = new ArrayList<>();
        List<Train> trains = new ArrayList<>();
        int need = 10;
        LinkedHashMap<String, Integer> places = new LinkedHashMap<>();
        String letters = "";
        Object[] shelves = new Object[4];
        int[] refusals = new int[7];
        Model image = null;

        Model() {
            for (int i = 0; i < 16; i++) {
                ground.add(10);
            }
        }

        static class Train {
            int kind;
            int figure;
            int slow;
            int way;

            static Train of(int kind, int figure, int slow, int way) {
                Train t;
                switch (kind) {
                    case 0: t = new Train(); break;
                    case 1: t = new Freight(); break;
                    case 2: t = new Express(); break;
                    case 3: t = new Tank(); break;
                    case 4: t = new Mail(); break;
                    default: t = new Pushed(); break;
                }
                t.kind = kind;
                t.figure = figure;
                t.slow = slow;
                t.way = way;
                return t;
            }

            int eye() {
                return 3;
            }

            int time(Model m, int cell, List<int[]> bridges) {
                return slow;
            }
        }

        static class Freight extends Train {
            int eye() {
                return 4;
            }

            int time(Model m, int cell, List<int[]> bridges) {
                int next = way == 1 ? cell - 1 : cell + 1;
                if (next == -1 || next == m.n) {
                    next = cell;
                }
                int above = m.ground.get(next) - m.ground.get(cell);
                return above > 0 ? slow + above : slow;
            }
        }

        static class Express extends Train {
            int eye() {
                return 2;
            }

            int time(Model m, int cell, List<int[]> bridges) {
                return slow - slow / 2;
            }
        }

        static final class Tank extends Freight {
            int eye() {
                return super.eye() + 1;
            }

            int time(Model m, int cell, List<int[]> bridges) {
                boolean under = bridges.stream().anyMatch(b -> b[0] == cell);
                return super.time(m, cell, bridges) + (under ? figure : 0);
            }
        }

        static final class Mail extends Express {
            int eye() {
                return super.eye() + figure;
            }

            int time(Model m, int cell, List<int[]> bridges) {
                int less = super.time(m, cell, bridges) - 1;
                return less < 1 ? 1 : less;
            }
        }

        static final class Pushed extends Freight {
            int eye() {
                return 0;
            }

            int time(Model m, int cell, List<int[]> bridges) {
                return super.time(m, cell, bridges) * 2;
            }
        }

        Model copy() {
            Model c = new Model();
            c.takeFrom(this);
            return c;
        }

        void takeFrom(Model o) {
            n = o.n;
            ground = new ArrayList<>(o.ground);
            bridges = new ArrayList<>();
            o.bridges.forEach(b -> bridges.add(b.clone()));
            posts = new ArrayList<>();
            o.posts.forEach(p -> posts.add(p.clone()));
            trains = new ArrayList<>(o.trains);
            need = o.need;
            places = new LinkedHashMap<>(o.places);
        }

        int no(int number) {
            refusals[-number]++;
            return number;
        }

        long noLong(int number) {
            return 4000000000000000000L - no(number);
        }

        boolean noCell(int c) {
            return c < 0 || c >= n;
        }

        boolean noBridge(int b) {
            return b < 0 || b >= bridges.size();
        }

        boolean noPost(int p) {
            return p < 0 || p >= posts.size();
        }

        boolean noTrain(int t) {
            return t < 0 || t >= trains.size();
        }

        int letter(int c) {
            if (c < 0) return no(-4);
            if (c > 255 || letters.length() == 120) return no(-6);
            letters += (char) c;
            return letters.length();
        }

        static final Pattern STATEMENTS = Pattern.compile(
            "((ground|post)( [0-9][0-9]?){2};|bridge( [0-9][0-9]?){3};|train( [0-9][0-9]?){4};"
            + "|(need|cells) [0-9][0-9]?;|place [a-z]{1,7} [0-9][0-9]?;)+");

        static boolean canGoOn(String begun) {
            Matcher matcher = STATEMENTS.matcher(begun);
            return matcher.matches() || matcher.hitEnd();
        }

        int tells() {
            String said = letters;
            letters = "";
            for (int i = 0; i < said.length(); i++) {
                if (!canGoOn(said.substring(0, i + 1))) return -1000 - i;
            }
            if (!STATEMENTS.matcher(said).matches()) return -1000 - said.length();
            Model trial = copy();
            int at = 0;
            int told = 0;
            for (String statement : said.split(";")) {
                if (trial.hear(statement.split(" ")) < 0) return -2000 - at;
                at += statement.length() + 1;
                told++;
            }
            takeFrom(trial);
            return told;
        }

        int hear(String[] words) {
            int[] v = new int[words.length];
            for (int i = words[0].equals("place") ? 2 : 1; i < words.length; i++) {
                v[i] = Integer.parseInt(words[i]);
            }
            switch (words[0]) {
                case "ground": return ground(v[1], v[2]);
                case "bridge": return bridge(v[1], v[2], v[3]);
                case "post": return post(v[1], v[2]);
                case "train": return train(v[1], v[2], v[3], v[4]);
                case "need": return need(v[1]);
                case "cells": return cells(v[1]);
                default:
                    if (noCell(v[2]) || places.size() == 8 && !places.containsKey(words[1])) return -1;
                    places.put(words[1], v[2]);
                    return 0;
            }
        }

        int cells(int to) {
            if (to < 2) return no(-4);
            if (to > 24) return no(-6);
            int was = n;
            n = to;
            while (ground.size() > n) ground.remove(ground.size() - 1);
            while (ground.size() < n) ground.add(10);
            bridges.removeIf(b -> b[0] >= n);
            posts.removeIf(p -> p[0] >= n);
            places.values().removeIf(c -> c >= n);
            return was;
        }

        int ground(int c, int v) {
            if (noCell(c)) return no(-1);
            if (v < 0) return no(-4);
            if (v > 30) return no(-6);
            return ground.set(c, v);
        }

        int bridge(int c, int low, int high) {
            if (noCell(c)) return no(-1);
            if (low < 0 || high < 0) return no(-4);
            if (low > 60 || high > 60 || bridges.size() == 4) return no(-6);
            if (low > high) return no(-3);
            bridges.add(new int[] {c, low, high});
            return bridges.size() - 1;
        }

        int fells(int b) {
            if (noBridge(b)) return no(-1);
            bridges.remove(b);
            return bridges.size();
        }

        boolean standsAt(int c, int but) {
            for (int p = 0; p < posts.size(); p++) {
                if (p != but && posts.get(p)[0] == c) return true;
            }
            return false;
        }

        int post(int c, int tall) {
            if (noCell(c)) return no(-1);
            if (tall < 0) return no(-4);
            if (tall > 15 || posts.size() == 5) return no(-6);
            if (standsAt(c, -1)) return no(-3);
            posts.add(new int[] {c, tall});
            return posts.size() - 1;
        }

        int sets(int p, int c, int tall) {
            if (noPost(p) || noCell(c)) return no(-1);
            if (tall < 0) return no(-4);
            if (tall > 15) return no(-6);
            if (standsAt(c, p)) return no(-3);
            int[] was = posts.set(p, new int[] {c, tall});
            return 100 * was[0] + was[1];
        }

        int train(int kind, int figure, int slow, int way) {
            if (kind < 0 || kind > 5 || way != 0 && way != 1) return no(-2);
            if (figure < 0 || slow < 1) return no(-4);
            if (figure > 9 || slow > 9 || trains.size() == 4) return no(-6);
            trains.add(Train.of(kind, figure, slow, way));
            return trains.size() - 1;
        }

        int need(int v) {
            if (v < 0) return no(-4);
            if (v > 99) return no(-6);
            int was = need;
            need = v;
            return was;
        }

        int ofBridge(int b, int what) {
            if (noBridge(b)) return no(-1);
            return what < 0 || what > 2 ? no(-2) : bridges.get(b)[what];
        }

        int ofPost(int p, int what) {
            if (noPost(p)) return no(-1);
            return what < 0 || what > 1 ? no(-2) : posts.get(p)[what];
        }

        int ofTrain(int t, int what) {
            if (noTrain(t)) return no(-1);
            if (what < 0 || what > 4) return no(-2);
            Train o = trains.get(t);
            return new int[] {o.kind, o.figure, o.slow, o.way, o.eye()}[what];
        }

        int height(int c) {
            return noCell(c) ? no(-1) : ground.get(c);
        }

        int time(int t, int c) {
            return noTrain(t) || noCell(c) ? no(-1) : trains.get(t).time(this, c, bridges);
        }

        /** How the line from a to b passes a height at cell k: below 0, 0, above 0. */
        int passes(int a, int topA, int b, int topB, int k, int height) {
            int difference = (topA - height) * (b - a) + (topB - topA) * (k - a);
            return Integer.signum(difference) * Integer.signum(b - a);
        }

        boolean clear(int a, int heightA, int b, int heightB, List<int[]> there) {
            int topA = ground.get(a) + heightA;
            int topB = ground.get(b) + heightB;
            for (int k = 0; k < n; k++) {
                if ((k > a) == (k > b) || k == a || k == b) continue;
                if (passes(a, topA, b, topB, k, ground.get(k)) <= 0) return false;
                for (int[] bridge : there) {
                    if (bridge[0] == k && passes(a, topA, b, topB, k, bridge[1]) >= 0
                        && passes(a, topA, b, topB, k, bridge[2]) <= 0) return false;
                }
            }
            return true;
        }

        int sight(int a, int heightA, int b, int heightB) {
            if (noCell(a) || noCell(b) || a == b) return no(-1);
            if (heightA < 0 || heightB < 0) return no(-4);
            if (heightA > 60 || heightB > 60) return no(-6);
            return clear(a, heightA, b, heightB, bridges) ? 1 : 0;
        }

        boolean seesIt(Train t, int[] post, int c, List<int[]> there) {
            boolean ahead = t.way == 0 ? c < post[0] : c > post[0];
            return ahead && clear(c, t.eye(), post[0], post[1], there);
        }

        int sees(int t, int p, int c) {
            if (noTrain(t) || noPost(p) || noCell(c)) return no(-1);
            return seesIt(trains.get(t), posts.get(p), c, bridges) ? 1 : 0;
        }

        int firstOf(Train t, int[] post, List<int[]> there) {
            int farthest = -9;
            for (int c = 0; c < n; c++) {
                if (c == post[0] || (t.way == 0) != (c < post[0])) continue;
                boolean all = true;
                for (int k = c; k != post[0]; k += t.way == 0 ? 1 : -1) {
                    all &= seesIt(t, post, k, there);
                }
                if (all && (farthest == -9 || Math.abs(c - post[0]) > Math.abs(farthest - post[0]))) farthest = c;
            }
            return farthest;
        }

        int warning(Train t, int[] post, List<int[]> there) {
            int first = firstOf(t, post, there);
            int sum = 0;
            if (first != -9) {
                for (int k = first; k != post[0]; k += t.way == 0 ? 1 : -1) {
                    sum += t.time(this, k, there);
                }
            }
            return sum;
        }

        int first(int t, int p) {
            return noTrain(t) || noPost(p) ? no(-1) : firstOf(trains.get(t), posts.get(p), bridges);
        }

        int warned(int t, int p) {
            return noTrain(t) || noPost(p) ? no(-1) : warning(trains.get(t), posts.get(p), bridges);
        }

        int keptPairs(List<int[]> there) {
            int pairs = 0;
            for (int[] p : posts) {
                for (Train t : trains) {
                    if (warning(t, p, there) >= need) pairs++;
                }
            }
            return pairs;
        }

        boolean isSafe(List<int[]> there) {
            return keptPairs(there) == posts.size() * trains.size();
        }

        int safe() {
            return isSafe(bridges) ? 1 : 0;
        }

        boolean keptForAll(int c, int tall) {
            for (Train t : trains) {
                if (warning(t, new int[] {c, tall}, bridges) < need) return false;
            }
            return true;
        }

        int[] bestCells;
        int bestSum;

        /** All ways in the order of the cells of posts 0, 1, ..: the first of the least sum stays. */
        void tryMoves(boolean[][] may, int[] at, int p, int sum) {
            if (p == posts.size()) {
                if (bestCells == null || sum < bestSum) {
                    bestCells = at.clone();
                    bestSum = sum;
                }
                return;
            }
            for (int c = 0; c < n; c++) {
                boolean fits = may[p][c];
                for (int q = 0; q < p; q++) {
                    fits &= Integer.signum(at[q] - c) == Integer.signum(posts.get(q)[0] - posts.get(p)[0]);
                }
                if (fits) {
                    at[p] = c;
                    tryMoves(may, at, p + 1, sum + Math.abs(c - posts.get(p)[0]));
                }
            }
        }

        int moved(int p) {
            if (p < -1 || p >= posts.size()) return no(-1);
            boolean[][] may = new boolean[posts.size()][n];
            for (int q = 0; q < posts.size(); q++) {
                for (int c = 0; c < n; c++) {
                    may[q][c] = keptForAll(c, posts.get(q)[1]);
                }
            }
            bestCells = null;
            tryMoves(may, new int[posts.size()], 0, 0);
            if (bestCells == null) return -9;
            return p == -1 ? bestSum : bestCells[p];
        }

        int raised(int p) {
            if (noPost(p)) return no(-1);
            for (int tall = 0; tall < 16; tall++) {
                if (keptForAll(posts.get(p)[0], tall)) return tall;
            }
            return -9;
        }

        List<int[]> without(int b) {
            List<int[]> rest = new ArrayList<>(bridges);
            rest.remove(b);
            return rest;
        }

        long freed(int b) {
            return noBridge(b) ? noLong(-1) : keptPairs(without(b)) - keptPairs(bridges);
        }

        int worst() {
            int answer = -9;
            int least = 0;
            for (int p = posts.size() - 1; p >= 0; p--) {
                for (int t = trains.size() - 1; t >= 0; t--) {
                    int w = warning(trains.get(t), posts.get(p), bridges);
                    if (answer == -9 || w <= least) {
                        least = w;
                        answer = 10 * p + t;
                    }
                }
            }
            return answer;
        }

        int slowest(int t, int p) {
            if (noTrain(t) || noPost(p)) return no(-1);
            Train o = trains.get(t);
            for (int slow = 1; slow < 10; slow++) {
                if (warning(Train.of(o.kind, o.figure, slow, o.way), posts.get(p), bridges) >= need) return slow;
            }
            return -9;
        }

        int seen(Train t, int c) {
            int sum = 0;
            for (int[] p : posts) {
                sum += seesIt(t, p, c, bridges) ? 1 : 0;
            }
            return sum;
        }

        int atOnce(int t, int c) {
            return noTrain(t) || noCell(c) ? no(-1) : seen(trains.get(t), c);
        }

        int most(int t, int what) {
            if (noTrain(t)) return no(-1);
            if (what != 0 && what != 1) return no(-2);
            int best = n - 1;
            int bits = 0;
            for (int c = n - 1; c >= 0; c--) {
                int sum = seen(trains.get(t), c);
                if (sum >= seen(trains.get(t), best)) best = c;
                if (sum == 0) bits += 1 << c;
            }
            return what == 0 ? best : bits;
        }

        int nearest(int t, int c) {
            if (noTrain(t) || noCell(c)) return no(-1);
            for (int far = 1; far < n; far++) {
                for (int p = 0; p < posts.size(); p++) {
                    if (Math.abs(posts.get(p)[0] - c) == far && seesIt(trains.get(t), posts.get(p), c, bridges)) return p;
                }
            }
            return -9;
        }

        int shadow(int b, int t, int p) {
            if (noBridge(b) || noTrain(t) || noPost(p)) return no(-1);
            int bits = 0;
            for (int c = 0; c < n; c++) {
                if (seesIt(trains.get(t), posts.get(p), c, without(b)) && !seesIt(trains.get(t), posts.get(p), c, bridges)) {
                    bits += 1 << c;
                }
            }
            return bits;
        }

        int alike(int size, int what) {
            if (size < 1) return no(-4);
            if (size > 8 || size > n) return no(-6);
            if (what != 0 && what != 1) return no(-2);
            Map<String, Integer> times = new LinkedHashMap<>();
            Map<String, Integer> begins = new LinkedHashMap<>();
            for (int c = 0; c + size <= n; c++) {
                StringBuilder form = new StringBuilder();
                for (int k = c; k < c + size; k++) {
                    int cell = k;
                    form.append(ground.get(k) - ground.get(c)).append(bridges.stream().anyMatch(b -> b[0] == cell) ? "B" : ",");
                }
                times.merge(form.toString(), 1, Integer::sum);
                begins.putIfAbsent(form.toString(), c);
            }
            if (what == 0) return times.size();
            for (Map.Entry<String, Integer> e : times.entrySet()) {
                if (e.getValue() > 1) return begins.get(e.getKey());
            }
            return -9;
        }

        int steepest(int size) {
            if (size < 2) return no(-4);
            if (size > 8 || size > n) return no(-6);
            int best = n - size;
            for (int c = n - size; c >= 0; c--) {
                if (steep(c, size) >= steep(best, size)) best = c;
            }
            return best;
        }

        int steep(int c, int size) {
            return Math.abs(ground.get(c) - ground.get(c + size - 1));
        }

        /** Above the line by t to the power of the bridges: each bridge is there or not. */
        BigInteger safeOdds(int t, int b, List<int[]> there) {
            if (b == bridges.size()) return isSafe(there) ? BigInteger.ONE : BigInteger.ZERO;
            BigInteger gone = safeOdds(t, b + 1, there);
            List<int[]> more = new ArrayList<>(there);
            more.add(bridges.get(b));
            return gone.add(safeOdds(t, b + 1, more).multiply(BigInteger.valueOf(t - 1)));
        }

        static long fraction(BigInteger above, BigInteger below, int part) {
            BigInteger by = above.gcd(below);
            return part == 0 ? above.divide(by).longValue() : below.divide(by).longValue();
        }

        long down(int t, int part) {
            if (t < 2) return noLong(-4);
            if (t > 20) return noLong(-6);
            if (part != 0 && part != 1) return noLong(-2);
            return fraction(safeOdds(t, 0, new ArrayList<>()), BigInteger.valueOf(t).pow(bridges.size()), part);
        }

        int allWarnings() {
            int sum = 0;
            for (int[] p : posts) {
                for (Train t : trains) {
                    sum += warning(t, p, bridges);
                }
            }
            return sum;
        }

        long mean(int part) {
            if (part != 0 && part != 1) return noLong(-2);
            int pairs = posts.size() * trains.size();
            return fraction(BigInteger.valueOf(allWarnings()), BigInteger.valueOf(Math.max(1, pairs)), part);
        }

        int name(int k, int i) {
            if (k < 0 || k >= places.size()) return no(-1);
            String name = new ArrayList<>(places.keySet()).get(k);
            if (i < -1 || i >= name.length()) return no(-1);
            return i == -1 ? name.length() : name.charAt(i);
        }

        int placeAt(int k) {
            return k < 0 || k >= places.size() ? no(-1) : new ArrayList<>(places.values()).get(k);
        }

        boolean noShelf(int s) {
            return s < 0 || s > 3;
        }

        int shelf(int s, int sort, int size) {
            if (noShelf(s)) return no(-1);
            if (sort < -1 || sort > 1) return no(-2);
            if (sort == -1) {
                shelves[s] = null;
                return 1;
            }
            if (size > 20) return no(-6);
            if (size < 0) return -14;
            shelves[s] = sort == 0 ? new byte[size] : new long[size];
            return 1;
        }

        int lay(int s, int t) {
            if (noShelf(s) || noTrain(t)) return no(-1);
            shelves[s] = trains.get(t);
            return 1;
        }

        int faultAt(int s, int i) {
            if (shelves[s] == null) return -11;
            if (shelves[s] instanceof Train) return -12;
            int size = shelves[s] instanceof byte[] bytes ? bytes.length : ((long[]) shelves[s]).length;
            return i < 0 || i >= size ? -13 : 0;
        }

        int put(int s, int i, long v) {
            if (noShelf(s)) return no(-1);
            if (faultAt(s, i) != 0) return faultAt(s, i);
            if (shelves[s] instanceof byte[] bytes) {
                bytes[i] = (byte) v;
            } else {
                ((long[]) shelves[s])[i] = v;
            }
            return 1;
        }

        long look(int s, int i) {
            if (noShelf(s)) return noLong(-1);
            if (faultAt(s, i) != 0) return 4000000000000000000L - faultAt(s, i);
            return shelves[s] instanceof byte[] bytes ? bytes[i] : ((long[]) shelves[s])[i];
        }

        int taken(int s, int kind) {
            if (noShelf(s)) return no(-1);
            if (kind < 0 || kind > 5) return no(-2);
            if (shelves[s] == null) return -11;
            return Train.of(kind, 0, 1, 0).getClass().isInstance(shelves[s]) ? ((Train) shelves[s]).eye() : -12;
        }

        boolean tellsTimes(byte[] told, Train t) {
            for (int c = 0; c < told.length; c++) {
                if (c < n && told[c] != t.time(this, c, bridges)) return false;
            }
            return true;
        }

        int whatIs(int s, int t, int what) {
            if (noShelf(s) || noTrain(t)) return no(-1);
            if (what != 0 && what != 1) return no(-2);
            if (shelves[s] == null) return -11;
            if (!(shelves[s] instanceof byte[])) return -12;
            Train o = trains.get(t);
            int bits = 0;
            for (int v = 0; v < (what == 0 ? 6 : 10); v++) {
                Train thought = what == 0 ? Train.of(v, o.figure, o.slow, o.way) : Train.of(o.kind, v, o.slow, o.way);
                if (tellsTimes((byte[]) shelves[s], thought)) bits += 1 << v;
            }
            return bits;
        }

        int judge(int s, int t) {
            if (noShelf(s) || noTrain(t)) return no(-1);
            if (shelves[s] == null) return -11;
            if (!(shelves[s] instanceof long[])) return -12;
            long[] told = (long[]) shelves[s];
            for (int p = 0; p < told.length; p++) {
                if (p >= posts.size() || told[p] != warning(trains.get(t), posts.get(p), bridges)) return p;
            }
            return -9;
        }

        int lots(int lines, int z, int what) {
            if (lines < 1) return no(-4);
            if (lines > 20) return no(-6);
            if (what != 0 && what != 1) return no(-2);
            Model by = copy();
            int sum = 0;
            for (int i = 0; i < lines; i++) {
                for (int c = 0; c < n; c++) {
                    z = (int) (z * 1664525L + 1013904223L);
                    by.ground.set(c, ((z & Integer.MAX_VALUE) >> 8) % 31);
                }
                sum += what == 0 ? by.safe() : by.allWarnings();
            }
            return sum;
        }

        int image() {
            image = copy();
            return posts.size();
        }

        int on() {
            if (image == null) return no(-3);
            takeFrom(image);
            return posts.size();
        }

        int count(int what) {
            switch (what) {
                case 0: return n;
                case 1: return bridges.size();
                case 2: return posts.size();
                case 3: return trains.size();
                case 4: return need;
                case 5: return places.size();
                case 6: return letters.length();
                case 7: return keptPairs(bridges);
                default: return what > 10 && what < 17 ? refusals[what - 10] : -9;
            }
        }
    }
}
