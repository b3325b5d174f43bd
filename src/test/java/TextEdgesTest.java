/** Boundary sentences of Term 2's texts and of promises 4 to 7: the tape, SCRIPTS, FAULTS. */
public final class TextEdgesTest {
    private static final int[] FAR = {Integer.MIN_VALUE, -2, -1, 99, Integer.MAX_VALUE};
    private static final int BLANKS = 0x20202020;

    public static void main(String[] args) {
        feedIsTheHighestFirst();
        feedComesBehind();
        feedUpToFourHundred();
        endNumbers();
        endCuts();
        endCutsTokens();
        everyByte();
        wordsEndWithLetters();
        wordsAreWhole();
        numbersOfDigits();
        blanksBetween();
        shapesOfLines();
        textsThatEndEarly();
        registersOfLines();
        fieldsOfLines();
        linesOfGo();
        twentyLines();
        faultOneGoesFirst();
        firstByPlace();
        scriptTakesTheTape();
        scriptOfWhom();
        scriptBetweenLines();
        scriptWhileAnswering();
        scriptIsAheadOfLineZero();
        scriptWithAFault();
        faultWhat();
        faultOfTheLatest();
        Check.end();
    }

    private static void feedIsTheHighestFirst() {
        Check.sentence("4: twenty bytes come behind it, of each number the highest first");
        for (int at = 0; at < 20; at++) {
            int[] words = {BLANKS, BLANKS, BLANKS, BLANKS, BLANKS};
            int shift = 24 - 8 * (at % 4);
            words[at / 4] = words[at / 4] & ~(255 << shift) | '?' << shift;
            StoreBufferHeap heap = new StoreBufferHeap();
            Check.same("feed", heap.feed(words[0], words[1], words[2], words[3], words[4]), 20);
            Check.same("a FAULT", heap.script(1), -1);
            Check.same("the byte is at " + at, heap.fault(1), at);
        }
        StoreBufferHeap heap = new StoreBufferHeap();
        heap.feed(BLANKS, 0xFFFFFFFF, Integer.MIN_VALUE, 0, Integer.MAX_VALUE);
        Check.same("bytes above 127", heap.script(1), -1);
        Check.same("the first of them", heap.fault(1), 4);
    }

    private static void feedComesBehind() {
        Check.sentence("4: come behind it: how many it has");
        StoreBufferHeap heap = new StoreBufferHeap();
        heap.feed(0x6E657720, 0x31303B20, BLANKS, BLANKS, BLANKS);
        Check.same("end", heap.end(5), 5);
        Check.same("behind five", heap.feed(0x3B736565, 0x20323B20, BLANKS, BLANKS, BLANKS), 25);
        Check.same("'new 1;see 2;'", heap.script(1), 2);
        heap.heap(1, 1, 1, 1);
        Check.same("an empty one again", heap.feed(BLANKS, BLANKS, BLANKS, BLANKS, BLANKS), 20);
        Check.same("and behind it", heap.feed(BLANKS, BLANKS, BLANKS, BLANKS, BLANKS), 40);
    }

    private static void feedUpToFourHundred() {
        Check.sentence("4: NONE, and nothing comes, if there would be more than 400");
        StoreBufferHeap heap = new StoreBufferHeap();
        for (int i = 1; i <= 20; i++) {
            Check.same("feed " + i, heap.feed(0, 0, 0, 0, 0), 20 * i);
        }
        Check.same("420 would be too many", heap.feed(0, 0, 0, 0, 0), -1);
        Check.same("nothing came", heap.end(401), -1);
        Check.same("all 400 are there", heap.end(400), 400);
        for (int n : new int[] {399, 382, 381}) {
            Check.same("end(" + n + ")", heap.end(n), n);
            Check.same(n + 20 + " would be too many", heap.feed(0, 0, 0, 0, 0), -1);
            Check.same("nothing came", heap.end(n + 1), -1);
        }
        Check.same("end(380)", heap.end(380), 380);
        Check.same("400 are not too many", heap.feed(0, 0, 0, 0, 0), 400);
        Check.same("end(379)", heap.end(379), 379);
        Check.same("nor are 399", heap.feed(0, 0, 0, 0, 0), 399);
        Check.same("400 bytes of blanks are a text", blanks(400), 0);
        Check.same("the 400th byte is read", blanksAnd(399, "?"), 399);
    }

    private static int blanks(int number) {
        return Check.script(new StoreBufferHeap(), 1, " ".repeat(number));
    }

    private static int blanksAnd(int number, String behind) {
        StoreBufferHeap heap = new StoreBufferHeap();
        Check.script(heap, 1, " ".repeat(number) + behind);
        return heap.fault(1);
    }

    private static void endNumbers() {
        Check.sentence("5: n. NONE if it has not so many, or n is below 0");
        StoreBufferHeap heap = new StoreBufferHeap();
        Check.same("of none, 1", heap.end(1), -1);
        Check.same("of none, 0", heap.end(0), 0);
        heap.feed(BLANKS, BLANKS, BLANKS, BLANKS, BLANKS);
        for (int far : FAR) {
            Check.same("end(" + far + ")", heap.end(far), -1);
        }
        Check.same("of 20, 21", heap.end(21), -1);
        Check.same("of 20, 20", heap.end(20), 20);
        Check.same("of 20, 19", heap.end(19), 19);
        Check.same("of 19, 20", heap.end(20), -1);
        Check.same("of 19, 1", heap.end(1), 1);
        Check.same("of 1, 0", heap.end(0), 0);
        Check.same("of 0, -1", heap.end(-1), -1);
    }

    private static void endCuts() {
        Check.sentence("5: The tape has its first n bytes alone");
        StoreBufferHeap heap = new StoreBufferHeap();
        heap.feed(0x6E657720, 0x303B6E65, 0x7720313B, 0x3F3F3F3F, 0x3F3F3F3F);
        Check.same("twelve of them", heap.end(12), 12);
        Check.same("two LINES", heap.script(1), 2);
        heap.feed(0x6E657720, 0x303B6E65, 0x7720313B, 0x3F3F3F3F, 0x3F3F3F3F);
        Check.same("thirteen", heap.end(13), 13);
        Check.same("a FAULT", heap.script(1), -1);
        Check.same("at the last", heap.fault(1), 12);
        heap.feed(0x6E657720, 0x303B6E65, 0x7720313B, 0x3F3F3F3F, 0x3F3F3F3F);
        Check.same("NONE cuts nothing", heap.end(21), -1);
        Check.same("NONE cuts nothing", heap.end(-1), -1);
        Check.same("all 20 are there", heap.end(20), 20);
        heap.end(6);
        Check.same("what was cut does not come back", heap.end(7), -1);
        Check.same("one LINE", heap.script(1), 1);
    }

    /** What stood behind the n-th byte is not read, whatever it was. */
    private static void endCutsTokens() {
        Check.sentence("5: The tape has its first n bytes alone (cut within a token, ahead of a blank)");
        String[] texts = {"sees 0;", "see 01;", "see 0 ;", "see 0;0", "see 0\n;", "see 0;see 0;"};
        int[] cuts = {3, 5, 5, 6, 5, 9};
        int[] places = {3, 5, 5, -1, 5, 9};
        for (int i = 0; i < texts.length; i++) {
            StoreBufferHeap heap = new StoreBufferHeap();
            Check.tape(heap, texts[i]);
            Check.same("end", heap.end(cuts[i]), cuts[i]);
            Check.same("'" + texts[i] + "' cut", heap.script(1), places[i] < 0 ? 1 : -1);
            Check.same("its place", heap.fault(1), places[i]);
        }
        StoreBufferHeap heap = new StoreBufferHeap();
        Check.tape(heap, "0000");
        heap.end(1);
        Check.same("a SCHEDULE of one byte", heap.run(), 1);
    }

    private static void reads(String text, int lines) {
        StoreBufferHeap heap = new StoreBufferHeap();
        heap.heap(1, 1, 1, 3);
        Check.same("'" + text + "'", Check.script(heap, 1, text), lines);
        Check.same("FAULT of '" + text + "'", heap.fault(0), 0);
        Check.same("place of '" + text + "'", heap.fault(1), -1);
    }

    private static void faults(String text, int fault, int place) {
        faultsWith(3, text, fault, place);
    }

    private static void faultsWith(int fields, String text, int fault, int place) {
        StoreBufferHeap heap = new StoreBufferHeap();
        heap.heap(1, 1, 1, fields);
        Check.same("'" + text + "'", Check.script(heap, 1, text), -1);
        Check.same("FAULT of '" + text + "'", heap.fault(0), fault);
        Check.same("place of '" + text + "'", heap.fault(1), place);
    }

    /** Between the word and the number of 'new 0;' stands every byte there is. */
    private static void everyByte() {
        Check.sentence("Term 2: blanks (10, 32); words of a .. z; NUMBERS of digits; ; one byte");
        for (int sign = 0; sign < 256; sign++) {
            String text = "new" + (char) sign + "0;";
            if (sign == 10 || sign == 32 || sign == '0') {
                reads(text, 1);
            } else if (sign >= '1' && sign <= '9') {
                faults(text, 2, 3);
            } else if (sign >= 'a' && sign <= 'z') {
                faults(text, 1, 0);
            } else {
                faults(text, 1, 3);
            }
        }
    }

    private static void wordsEndWithLetters() {
        Check.sentence("Term 2: words, rows of letters a .. z, as long as they go");
        reads("go0;", 1);
        faults("goo0;", 1, 0);
        faults("g0;", 1, 0);
        faults("goz0;", 1, 0);
        faults("goa0;", 1, 0);
        faults("go`0;", 1, 2);
        faults("go{0;", 1, 2);
        faults("newnew 0;", 1, 0);
        faults("NEW 0;", 1, 0);
    }

    private static void wordsAreWhole() {
        Check.sentence("Term 2: 'new' | 'drop' | 'see' | 'copy' | 'load' | 'store' | 'go'");
        String[] lines = {"new 0;", "drop 0;", "see 0;", "copy 0 0;", "load 0 0 0;", "store 0 0 0;",
            "go 0;"};
        for (String line : lines) {
            reads(line, 1);
            faults(line.substring(1), 1, 0);
            faults(line.replaceFirst(" ", "s "), 1, 0);
            faults(line.charAt(0) + " " + line.substring(1), 1, 0);
            faults("x" + line, 1, 0);
            faults(line + "x", 1, line.length());
        }
        for (String word : "party put get swap fence to mark store0".split(" ")) {
            faults(word + " 0;", 1, word.equals("store0") ? 8 : 0);
        }
    }

    private static void numbersOfDigits() {
        Check.sentence("Term 2: NUMBERS, 1 or 2 digits; a longer row of digits is no token");
        reads("see 0;", 1);
        reads("see 00;", 1);
        faults("see 000;", 1, 4);
        faults("see ;", 1, 4);
        reads("copy 0 00;", 1);
        faults("copy 0 000;", 1, 7);
        faults("copy 000 0;", 1, 5);
        faults("see 0000000000000000000000;", 1, 4);
        faults("see 4294967296;", 1, 4);
        faults("see 2147483648;", 1, 4);
        faults("see 99;", 2, 4);
        faults("see 100;", 1, 4);
        faults("000", 1, 0);
        faults("00", 1, 0);
        faults("see 0000", 1, 4);
    }

    private static void blanksBetween() {
        Check.sentence("Term 2: TOKENS, blanks (10, 32) between");
        reads("", 0);
        reads(" ", 0);
        reads("\n \n", 0);
        reads("see 0;see 1;", 2);
        reads(" see\n0 ;\n\nsee  1\n;  ", 2);
        reads("see0;see1;", 2);
        reads("copy0 1;", 1);
        faults("copy01;", 1, 6);
        faults("see\t0;", 1, 3);
        faults("see 0;\r\n", 1, 6);
        faults("see 0;\u0000", 1, 6);
        faults("se e 0;", 1, 0);
        faults("load 0 1 1 0;", 1, 11);
    }

    /** Of every LINE one NUMBER too few, the right ones, one too many. */
    private static void shapesOfLines() {
        Check.sentence("Term 2: LINE: one NUMBER, two or three, and ';'");
        String[] words = {"new", "drop", "see", "go", "copy", "load", "store"};
        int[] numbers = {1, 1, 1, 1, 2, 3, 3};
        for (int i = 0; i < words.length; i++) {
            String right = words[i] + " 0".repeat(numbers[i]);
            reads(right + ";", 1);
            reads(right + ";" + right + ";", 2);
            faults(right.substring(0, right.length() - 2) + ";", 1, right.length() - 2);
            faults(right + " 0;", 1, right.length() + 1);
            faults(right + ";;", 1, right.length() + 1);
            faults(right + right + ";", 1, right.length());
            faults(right + ", 0;", 1, right.length());
            faults(words[i] + ";", 1, words[i].length());
            faults(words[i] + " r;", 1, words[i].length() + 1);
            faults(words[i] + " -1;", 1, words[i].length() + 1);
        }
        faults(";", 1, 0);
        faults("0;", 1, 0);
    }

    private static void textsThatEndEarly() {
        Check.sentence("Term 2: FAULTS, with places (a token's first byte; the end's)");
        faults("store", 1, 5);
        faults("store ", 1, 6);
        faults("store 0", 1, 7);
        faults("store 0 0", 1, 9);
        faults("store 0 0 0", 1, 11);
        faults("store 0 0 0\n \n", 1, 14);
        reads("store 0 0 0;", 1);
        faults("store 0 0 0;st", 1, 12);
        faults("see 0;  see 0 ?", 1, 14);
        faults("see 0;  sex", 1, 8);
        faults("   see 0;   55", 1, 12);
        faults("see 0;" + " ".repeat(391) + "see", 1, 400);
        faults("see 0;" + " ".repeat(393) + ";", 1, 399);
    }

    private static void registersOfLines() {
        Check.sentence("Term 2: 2 a NUMBER that can't be (REGISTERS 0 .. 3)");
        String[] shapes = {"new R;", "drop R;", "see R;", "copy R 3;", "copy 3 R;", "load R 3 0;",
            "load 3 R 0;", "store R 0 3;", "store 3 0 R;"};
        for (String shape : shapes) {
            int place = shape.indexOf('R');
            for (int register = 0; register <= 3; register++) {
                reads(shape.replace("R", "" + register), 1);
                reads(shape.replace("R", "0" + register), 1);
            }
            for (String wrong : new String[] {"4", "04", "9", "10", "20", "99"}) {
                faults(shape.replace("R", wrong), 2, place);
            }
        }
    }

    private static void fieldsOfLines() {
        Check.sentence("Term 2: 2 a NUMBER that can't be (FIELDS 0 .. F - 1)");
        for (int fields = 1; fields <= 3; fields++) {
            StoreBufferHeap heap = new StoreBufferHeap();
            heap.heap(1, 1, 1, fields);
            for (int f = 0; f <= 4; f++) {
                boolean can = f < fields;
                Check.same("load", Check.script(heap, 1, "load 3 3 " + f + ";"), can ? 1 : -1);
                Check.same("load's FAULT", heap.fault(0), can ? 0 : 2);
                Check.same("load's place", heap.fault(1), can ? -1 : 9);
                Check.same("store", Check.script(heap, 1, "store 3 " + f + " 3;"), can ? 1 : -1);
                Check.same("store's FAULT", heap.fault(0), can ? 0 : 2);
                Check.same("store's place", heap.fault(1), can ? -1 : 8);
            }
        }
    }

    private static void linesOfGo() {
        Check.sentence("Term 2: 2 a NUMBER that can't be (LINES 0 .. 20)");
        for (int line = 0; line <= 20; line++) {
            reads("go " + line + ";", 1);
        }
        faults("go 21;", 2, 3);
        faults("go 22;", 2, 3);
        faults("go 99;", 2, 3);
        faults("go 021;", 1, 3);
        faults("go 200;", 1, 3);
    }

    private static void twentyLines() {
        Check.sentence("Term 2: at most 20 LINES; 3 a 21st LINE, at its first token");
        reads("see 0;".repeat(19), 19);
        reads("see 0;".repeat(20), 20);
        faults("see 0;".repeat(21), 3, 120);
        faults("see 0;".repeat(20) + " \n see 0;", 3, 123);
        reads("see 0;".repeat(20) + " \n ", 20);
        faults("see 0;".repeat(22), 3, 120);
        faults("see 0;".repeat(66), 3, 120);
        faults("go0;".repeat(100), 3, 80);
        reads("store 00 00 00 ;    ".repeat(20), 20);
    }

    private static void faultOneGoesFirst() {
        Check.sentence("Term 2: 1 the first byte or token with which no text goes on. If there is none, ..");
        faults("see 4;see 0;", 2, 4);
        faults("see 4;see 0", 1, 11);
        faults("see 4;see 0;?", 1, 12);
        faults("see 4", 1, 5);
        faults("see 4?", 1, 5);
        faults("see 0;".repeat(20) + "sea 0;", 1, 120);
        faults("see 0;".repeat(20) + "see 000;", 1, 124);
        faults("see 0;".repeat(21) + ";", 1, 126);
        faults("see 0;".repeat(66) + "see", 1, 399);
        faults("? ? ?", 1, 0);
        faults("see ?;see !;", 1, 4);
    }

    private static void firstByPlace() {
        Check.sentence("Term 2: the first by place");
        faults("see 4;see 5;", 2, 4);
        faults("copy 4 4;", 2, 5);
        faults("copy 0 4;copy 4 0;", 2, 7);
        faultsWith(1, "load 4 4 1;", 2, 5);
        faultsWith(1, "load 0 4 1;", 2, 7);
        faultsWith(1, "load 0 0 1;", 2, 9);
        faults("see 0;".repeat(19) + "see 4;see 0;", 2, 118);
        faults("see 0;".repeat(20) + "see 4;", 3, 120);
        faults("see 4;" + "see 0;".repeat(20), 2, 4);
    }

    private static void scriptTakesTheTape() {
        Check.sentence("6: The tape is taken (and is empty then)");
        StoreBufferHeap heap = new StoreBufferHeap();
        Check.same("a SCRIPT", Check.script(heap, 1, "see 0;"), 1);
        Check.same("empty", heap.end(1), -1);
        Check.same("an empty tape is a SCRIPT", heap.script(1), 0);
        Check.same("a FAULT", Check.script(heap, 1, "see 4;"), -1);
        Check.same("empty", heap.end(1), -1);
        Check.same("no such MUTATOR", Check.script(heap, 2, "see 0;"), -2);
        Check.same("empty", heap.end(1), -1);
        Check.same("empty", heap.end(0), 0);
        Check.same("feed begins anew", heap.feed(0, 0, 0, 0, 0), 20);
    }

    private static void scriptOfWhom() {
        Check.sentence("6: -2: there is no such MUTATOR (no text is read then, FAULT 0)");
        for (int mutators = 1; mutators <= 3; mutators++) {
            StoreBufferHeap heap = new StoreBufferHeap();
            heap.heap(mutators, 1, 1, 1);
            for (int m = -1; m <= 5; m++) {
                boolean there = m >= 1 && m <= mutators;
                Check.same("FAULT", Check.script(heap, 1, "see 4;"), -1);
                Check.same("script(" + m + ")", Check.script(heap, m, "see 0;"), there ? 1 : -2);
                Check.same("FAULT 0", heap.fault(0), 0);
                Check.script(heap, 1, "see 4;");
                Check.same("of a wrong text", Check.script(heap, m, "?"), there ? -1 : -2);
                Check.same("its FAULT", heap.fault(0), there ? 1 : 0);
                Check.same("its place", heap.fault(1), there ? 0 : -1);
            }
            for (int far : FAR) {
                Check.same("script(" + far + ")", Check.script(heap, far, "see 0;"), -2);
            }
        }
    }

    private static void refuses(StoreBufferHeap heap, String when) {
        Check.script(heap, 2, "see 4;");
        Check.same(when, Check.script(heap, 1, "?"), -2);
        Check.same(when + ": FAULT 0", heap.fault(0), 0);
        Check.same(when + ": no place", heap.fault(1), -1);
        Check.same(when + ": the tape is taken", heap.end(1), -1);
    }

    private static void scriptBetweenLines() {
        Check.sentence("6: -2: it is not between two LINES");
        String text = "new 0;new 1;store 0 0 1;store 0 0 0;";
        for (int steps = 2; steps <= 9; steps++) {
            StoreBufferHeap heap = new StoreBufferHeap();
            heap.heap(2, 2, 2, 1);
            Check.script(heap, 1, text);
            Check.same("steps", Check.run(heap, "1".repeat(steps)), steps);
            boolean between = steps == 2 || steps == 5 || steps == 9;
            Check.same("between after " + steps, heap.about(1, 1), between ? 1 : 0);
            int line = heap.about(1, 0);
            if (!between) {
                refuses(heap, "after " + steps);
                Check.same("it goes on where it was", heap.about(1, 0), line);
                Check.isTrue("it goes on", heap.does(1));
            } else {
                Check.same("after " + steps, Check.script(heap, 1, "see 0;"), 1);
                Check.same("LINE 0", heap.about(1, 0), 0);
            }
        }
    }

    private static void scriptWhileAnswering() {
        Check.sentence("6: -2: it answers a HANDSHAKE");
        StoreBufferHeap heap = new StoreBufferHeap();
        heap.heap(2, 1, 2, 1);
        Check.script(heap, 1, "new 0;");
        Check.same("up to the ask for ROOTS", Check.run(heap, "1 01200a 01200a 01200a0a 0120 0"), 26);
        Check.same("asked", heap.about(1, 2), 1);
        Check.same("between two LINES", heap.about(1, 1), 1);
        Check.same("asked, no STEP of an answer yet", Check.script(heap, 1, "see 0;"), 1);
        for (int i = 0; i < 3; i++) {
            Check.isTrue("a STEP of the answer", heap.does(1));
            Check.same("answers", heap.about(1, 1), 0);
            refuses(heap, "answers " + i);
        }
        Check.isTrue("the last STEP of the answer", heap.does(1));
        Check.same("has answered", heap.about(1, 1), 1);
        Check.same("has answered", Check.script(heap, 1, "see 0;"), 1);
        Check.same("asked, and all NIL", heap.about(2, 2), 1);
        Check.isTrue("answers by one STEP", heap.does(2));
        Check.same("has answered", Check.script(heap, 2, "see 0;"), 1);
    }

    private static void scriptIsAheadOfLineZero() {
        Check.sentence("6: that is ahead of LINE 0 then: how many LINES");
        StoreBufferHeap heap = new StoreBufferHeap();
        heap.heap(2, 1, 2, 1);
        Check.same("two LINES", Check.script(heap, 1, "new 0;see 0;"), 2);
        Check.same("the other has none", heap.about(2, 3), 1);
        heap.does(1);
        Check.same("LINE 1", heap.about(1, 0), 1);
        Check.same("one LINE", Check.script(heap, 1, "see 0;"), 1);
        Check.same("LINE 0", heap.about(1, 0), 0);
        Check.same("REGISTERS stay", heap.root(1, 0, true), 0);
        Check.same("STEPS stay", heap.about(1, 4), 1);
        heap.does(1);
        Check.same("behind the last one", heap.about(1, 0), 1);
        Check.same("no LINE", Check.script(heap, 1, ""), 0);
        Check.same("behind the last one", heap.about(1, 0), 0);
        Check.isFalse("nothing to do", heap.does(1));
        Check.same("what it has SEEN stays", heap.count(11), 1);
    }

    private static void scriptWithAFault() {
        Check.sentence("6: NONE: a FAULT");
        StoreBufferHeap heap = new StoreBufferHeap();
        Check.script(heap, 1, "see 0;see 0;see 0;");
        heap.does(1);
        Check.same("a FAULT", Check.script(heap, 1, "new 0;new 4;"), -1);
        Check.same("the SCRIPT stays", heap.about(1, 0), 1);
        Check.same("its LINES are done", Check.run(heap, "111"), 2);
        Check.same("none of the other's", heap.count(4), 0);
        Check.same("without", Check.script(heap, 1, "new 0;new 3;"), 2);
    }

    private static void faultWhat() {
        Check.sentence("7: what 0: the FAULT, 0 without, 1: its place, NONE without. NONE for another what");
        StoreBufferHeap heap = new StoreBufferHeap();
        Check.same("before any text", heap.fault(0), 0);
        Check.same("before any text", heap.fault(1), -1);
        Check.script(heap, 1, "see 0;see 4;");
        Check.same("FAULT", heap.fault(0), 2);
        Check.same("place", heap.fault(1), 10);
        for (int far : FAR) {
            Check.same("fault(" + far + ")", heap.fault(far), -1);
        }
        Check.same("fault(2)", heap.fault(2), -1);
        Check.script(heap, 1, "?");
        Check.same("FAULT", heap.fault(0), 1);
        Check.same("place 0", heap.fault(1), 0);
        Check.script(heap, 1, "see 0;");
        Check.same("without", heap.fault(0), 0);
        Check.same("without", heap.fault(1), -1);
    }

    private static void faultOfTheLatest() {
        Check.sentence("7: Of the latest script() or trial()");
        StoreBufferHeap heap = new StoreBufferHeap();
        Check.script(heap, 1, "see 4;");
        Check.same("script's", heap.fault(0), 2);
        Check.trial(heap, "party;party;party;party;");
        Check.same("trial's", heap.fault(0), 3);
        Check.same("trial's", heap.fault(1), 18);
        Check.run(heap, "?");
        heap.fair(1);
        heap.heap(1, 1, 1, 1);
        Check.same("no other call's", heap.fault(0), 3);
        Check.script(heap, 0, "?");
        Check.same("script's, that read nothing", heap.fault(0), 0);
        Check.script(heap, 1, "?");
        Check.trial(heap, "party;");
        Check.same("trial's, without", heap.fault(0), 0);
        Check.same("trial's, without", heap.fault(1), -1);
    }
}
