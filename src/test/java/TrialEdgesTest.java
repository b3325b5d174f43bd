/** Boundary sentences of Term 5 and of promises 25 to 28. */
public final class TrialEdgesTest {
    private static final int[] FAR = {Integer.MIN_VALUE, -2, -1, 99, Integer.MAX_VALUE};
    private static final String FOUR = "party;fence;fence;fence;fence;";

    public static void main(String[] args) {
        trialTakesTheTape();
        trialStaysWithAFault();
        shapesOfLines();
        textsThatEndEarly();
        partyComesFirst();
        noLineAtAll();
        everyByte();
        numbersThatCantBe();
        partiesUpToThree();
        actsUpToFour();
        actsUpToNine();
        firstByPlace();
        faultOneGoesFirst();
        zeroAtFirst();
        emptyParties();
        buffersOfTwo();
        swapsAreDrained();
        swapsAreOne();
        fencesAreDrained();
        getsReadTheYoungest();
        statesAreOfAll();
        statesWithoutATrial();
        strictStates();
        outcomesNeedTheEnd();
        outcomesToTheBaseOfFour();
        outcomesOfSorts();
        outcomesWithoutATrial();
        outcomeByNumber();
        weakAreNotStrict();
        nineActs();
        Check.end();
    }

    private static void reads(String text, int parties) {
        StoreBufferHeap heap = new StoreBufferHeap();
        Check.same("'" + text + "'", Check.trial(heap, text), parties);
        Check.same("FAULT of '" + text + "'", heap.fault(0), 0);
        Check.same("place of '" + text + "'", heap.fault(1), -1);
    }

    private static void faults(String text, int fault, int place) {
        StoreBufferHeap heap = new StoreBufferHeap();
        Check.same("'" + text + "'", Check.trial(heap, text), -1);
        Check.same("FAULT of '" + text + "'", heap.fault(0), fault);
        Check.same("place of '" + text + "'", heap.fault(1), place);
        Check.same("no TRIAL of '" + text + "'", heap.states(false), 0);
    }

    private static void states(String text, int all, int strict) {
        StoreBufferHeap heap = new StoreBufferHeap();
        Check.isTrue("'" + text + "'", Check.trial(heap, text) > 0);
        Check.same("STATES of '" + text + "'", heap.states(false), all);
        Check.same("strict STATES of '" + text + "'", heap.states(true), strict);
    }

    private static void outcomes(String text, int sort, int... due) {
        StoreBufferHeap heap = new StoreBufferHeap();
        Check.isTrue("'" + text + "'", Check.trial(heap, text) > 0);
        Check.same("how many of '" + text + "'", heap.outcomes(sort), due.length);
        for (int k = 0; k < due.length; k++) {
            Check.same("OUTCOME " + k + " of '" + text + "'", heap.outcome(sort, k), due[k]);
        }
        Check.same("no more of '" + text + "'", heap.outcome(sort, due.length), -1);
    }

    private static void trialTakesTheTape() {
        Check.sentence("25: The tape is taken (and is empty then), as the TRIAL: how many PARTIES");
        StoreBufferHeap heap = new StoreBufferHeap();
        Check.same("one", Check.trial(heap, "party;"), 1);
        Check.same("empty", heap.end(1), -1);
        Check.same("a FAULT", Check.trial(heap, "?"), -1);
        Check.same("empty", heap.end(1), -1);
        Check.same("an empty tape", heap.trial(), -1);
        Check.same("feed begins anew", heap.feed(0, 0, 0, 0, 0), 20);
        reads("party;party;", 2);
        reads("party;party;party;", 3);
        reads("party;" + " ".repeat(394), 1);
    }

    private static void trialStaysWithAFault() {
        Check.sentence("25: NONE: a FAULT, as told by fault() then (the TRIAL stays)");
        StoreBufferHeap heap = new StoreBufferHeap();
        Check.same("a FAULT", Check.trial(heap, "party;put 0 4;"), -1);
        Check.same("none was, none is", heap.states(false), 0);
        Check.same("a TRIAL", Check.trial(heap, "party;put 0 1;"), 1);
        String[] wrong = {"", "fence;", "party;put 0 4;", FOUR + "fence;", "party;fence"};
        int[] fault = {1, 1, 2, 3, 1};
        int[] place = {0, 0, 12, 30, 11};
        for (int i = 0; i < wrong.length; i++) {
            Check.same("'" + wrong[i] + "'", Check.trial(heap, wrong[i]), -1);
            Check.same("its FAULT", heap.fault(0), fault[i]);
            Check.same("its place", heap.fault(1), place[i]);
            Check.same("the TRIAL stays", heap.states(false), 3);
            Check.same("the TRIAL stays", heap.outcomes(0), 1);
        }
        Check.same("another TRIAL", Check.trial(heap, "party;"), 1);
        Check.same("does not", heap.states(false), 1);
    }

    private static void shapesOfLines() {
        Check.sentence("Term 5: LINE: ('party' | 'put' NUMBER NUMBER | 'get' NUMBER NUMBER | "
            + "'swap' NUMBER NUMBER NUMBER | 'fence') ';'");
        String[] words = {"party", "fence", "put", "get", "swap"};
        int[] numbers = {0, 0, 2, 2, 3};
        for (int i = 0; i < words.length; i++) {
            String right = "party;" + words[i] + " 0".repeat(numbers[i]);
            int end = right.length();
            reads(right + ";", i == 0 ? 2 : 1);
            faults(right + " 0;", 1, end + 1);
            faults(right + ";;", 1, end + 1);
            faults(right + " ?;", 1, end + 1);
            faults("party;" + words[i].substring(1) + " 0".repeat(numbers[i]) + ";", 1, 6);
            faults("party;" + words[i] + "s" + " 0".repeat(numbers[i]) + ";", 1, 6);
            if (numbers[i] > 0) {
                faults(right.substring(0, end - 2) + ";", 1, end - 2);
                faults("party;" + words[i] + ";", 1, 6 + words[i].length());
            }
        }
        for (String word : "new drop see copy load store go parties".split(" ")) {
            faults("party;" + word + " 0;", 1, 6);
        }
        faults("party;;", 1, 6);
        faults("party;0;", 1, 6);
        reads("party ;put 00 3;put\n0\n03;get1 2;fence;", 1);
        faults("party;put 003 0;", 1, 10);
        faults("party;put 01;", 1, 12);
    }

    private static void textsThatEndEarly() {
        Check.sentence("Term 5: FAULTS of a TRIAL: 1 as of a SCRIPT (the end's place)");
        String text = "party;swap 0 0 0;";
        for (int length = 0; length <= text.length(); length++) {
            String cut = text.substring(0, length);
            if (length == 6 || length == text.length()) {
                reads(cut, 1);
            } else if (length > 0 && length < 5) {
                faults(cut, 1, 0);
            } else if (length > 6 && length < 10) {
                faults(cut, 1, 6);
            } else {
                faults(cut, 1, length);
            }
        }
        faults("party  ", 1, 7);
        faults("party;get \n", 1, 11);
    }

    private static void partyComesFirst() {
        Check.sentence("Term 5: the first one is party; 1 (and a first LINE that is not party)");
        reads("party;put 0 0;", 1);
        String[] first = {"put 0 0;", "get 0 0;", "swap 0 0 0;", "fence;"};
        for (String line : first) {
            reads("party;" + line, 1);
            faults(line, 1, 0);
            faults(line + "party;", 1, 0);
            faults(" \n" + line + "party;", 1, 2);
        }
        faults("party party;", 1, 6);
        faults(";party;", 1, 0);
    }

    private static void noLineAtAll() {
        Check.sentence("Term 5: 1 (and a text without any LINE)");
        faults("", 1, 0);
        faults(" ", 1, 1);
        faults("\n \n ", 1, 4);
        faults(" ".repeat(400), 1, 400);
        reads(" party;", 1);
        StoreBufferHeap heap = new StoreBufferHeap();
        Check.same("a SCRIPT may have none", heap.script(1), 0);
        Check.same("a TRIAL may not", heap.trial(), -1);
    }

    private static void everyByte() {
        Check.sentence("Term 5: TOKENS and blanks as of a SCRIPT");
        for (int sign = 0; sign < 256; sign++) {
            String text = "party;put" + (char) sign + "0 0;";
            if (sign == 10 || sign == 32 || sign == '0') {
                reads(text, 1);
            } else if (sign >= '1' && sign <= '9') {
                faults(text, 2, 9);
            } else {
                faults(text, 1, sign >= 'a' && sign <= 'z' ? 6 : 9);
            }
        }
    }

    private static void numbersThatCantBe() {
        Check.sentence("Term 5: 2 a NUMBER that can't be (CELLS 0 .. 2, v 0 .. 3, REGISTERS 0, 1)");
        String[] shapes = {"party;put N 0;", "party;put 0 N;", "party;get N 0;", "party;get 0 N;",
            "party;swap N 0 0;", "party;swap 0 N 0;", "party;swap 0 0 N;"};
        int[] most = {2, 3, 1, 2, 2, 3, 1};
        for (int i = 0; i < shapes.length; i++) {
            for (int number = 0; number <= 12; number++) {
                String text = shapes[i].replace("N", "" + number);
                if (number <= most[i]) {
                    reads(text, 1);
                } else {
                    faults(text, 2, shapes[i].indexOf('N'));
                }
            }
            faults(shapes[i].replace("N", "99"), 2, shapes[i].indexOf('N'));
            reads(shapes[i].replace("N", "0" + most[i]), 1);
            faults(shapes[i].replace("N", "00" + most[i]), 1, shapes[i].indexOf('N'));
        }
    }

    private static void partiesUpToThree() {
        Check.sentence("Term 5: 1 to 3 PARTIES; 3 a 4th party, at its first token");
        reads("party;", 1);
        reads("party;party;party;", 3);
        faults("party;party;party;party;", 3, 18);
        faults("party;fence;party;fence;party;fence; party;", 3, 37);
        faults("party;party;party;party;party;", 3, 18);
        faults("party;".repeat(66), 3, 18);
    }

    private static void actsUpToFour() {
        Check.sentence("Term 5: each with at most 4 ACTS; 3 a 5th ACT of a PARTY, at its first token");
        String[] acts = {"put 0 0;", "get 0 0;", "swap 0 0 0;", "fence;"};
        for (String act : acts) {
            reads("party;" + act.repeat(4), 1);
            faults("party;" + act.repeat(5), 3, 6 + 4 * act.length());
            faults("party;" + act.repeat(6), 3, 6 + 4 * act.length());
            reads("party;" + act.repeat(4) + "party;" + act.repeat(4), 2);
            faults("party;" + act + "party;" + act.repeat(5), 3, 12 + 5 * act.length());
        }
        reads("party;party;party;" + "fence;".repeat(4), 3);
        faults("party;party;party;" + "fence;".repeat(5), 3, 42);
        faults("party;put 0 0;get 0 0;swap 0 0 0;fence;\nfence;", 3, 40);
    }

    private static void actsUpToNine() {
        Check.sentence("Term 5: (9 of all together); 3 a 10th of all, at its first token");
        reads(FOUR + FOUR, 2);
        reads(FOUR + FOUR + "party;", 3);
        reads(FOUR + FOUR + "party;fence;", 3);
        faults(FOUR + FOUR + "party;fence;fence;", 3, 72);
        reads(FOUR + "party;fence;fence;party;fence;fence;fence;", 3);
        faults(FOUR + "party;fence;fence;" + FOUR, 3, 72);
        reads("party;fence;fence;fence;".repeat(3), 3);
        faults("party;fence;fence;fence;".repeat(3) + "fence;", 3, 72);
        faults("party;fence;" + FOUR + FOUR + "fence;", 3, 72);
        reads("party;fence;" + FOUR + FOUR, 3);
    }

    private static void firstByPlace() {
        Check.sentence("Term 5: if there is none, the first by place");
        faults("party;put 3 4;", 2, 10);
        faults("party;put 0 4;put 3 0;", 2, 12);
        faults("party;put 0 4;" + "fence;".repeat(4), 2, 12);
        faults(FOUR + "put 3 4;", 3, 30);
        faults("party;party;party;party;put 3 4;", 3, 18);
        faults("party;put 3 0;party;party;party;", 2, 10);
        faults(FOUR + FOUR + "party;fence;get 2 0;", 3, 72);
        faults(FOUR + FOUR + "party;get 2 0;fence;", 2, 70);
    }

    private static void faultOneGoesFirst() {
        Check.sentence("Term 5: 1 .. if there is none");
        faults("party;put 3 4;?", 1, 14);
        faults("party;put 3 4", 1, 13);
        faults("party;party;party;party", 1, 23);
        faults("party;party;party;party;fence", 1, 29);
        faults(FOUR + "fence;new 0;", 1, 36);
        faults(FOUR + FOUR + "party;fence;fence;fence 0;", 1, 84);
        faults("party;".repeat(66) + "part", 1, 396);
    }

    private static void zeroAtFirst() {
        Check.sentence("Term 5: CELLS 0 .. 2 (0 at first); REGISTERS 0 and 1 (0 at first)");
        for (int cell = 0; cell <= 2; cell++) {
            outcomes("party;get 0 " + cell + ";get 1 " + cell + ";", 0, 0);
            outcomes("party;put " + cell + " 3;get 1 " + cell + ";", 0, 3);
            outcomes("party;swap " + cell + " 3 0;swap " + cell + " 2 1;", 0, 3);
        }
        outcomes("party;put 0 3;put 1 2;get 0 2;get 1 1;", 0, 2);
        outcomes("party;", 0, 0);
    }

    private static void emptyParties() {
        Check.sentence("Term 5: each with at most 4 ACTS (and none is enough)");
        states("party;", 1, 1);
        states("party;party;party;", 1, 1);
        states("party;fence;party;party;", 2, 2);
        states("party;party;party;fence;", 2, 2);
        outcomes("party;party;party;get 1 0;", 0, 0);
        outcomes("party;party;put 0 1;party;get 1 0;", 0, 0, 1);
    }

    private static void buffersOfTwo() {
        Check.sentence("Term 5: a BUFFER of at most 2 WRITES");
        states("party;put 0 1;", 3, 2);
        states("party;put 0 1;put 0 2;", 6, 3);
        states("party;put 0 1;put 0 2;put 0 3;", 9, 4);
        states("party;put 0 1;put 0 2;put 0 3;put 0 1;", 12, 5);
        states("party;put 0 0;put 0 0;put 0 0;", 9, 4);
    }

    private static void swapsAreDrained() {
        Check.sentence("Term 5: swap c v r: DRAINED");
        states("party;swap 1 1 0;", 2, 2);
        states("party;put 0 1;swap 1 1 0;", 4, 3);
        states("party;put 0 1;put 0 2;swap 1 1 0;", 7, 4);
        String left = "party;put 0 1;swap 2 1 1;get 0 1;";
        outcomes(left + "party;put 1 1;swap 2 2 1;get 0 0;", 2);
        outcomes("party;put 0 1;get 0 1;party;put 1 1;swap 2 2 1;get 0 0;", 2, 0);
    }

    private static void swapsAreOne() {
        Check.sentence("Term 5: r is what MEMORY has in c, and that becomes v, in one");
        outcomes("party;swap 0 1 0;party;swap 0 2 0;party;swap 0 3 0;", 0,
            64 + 2 * 4, 3 * 64 + 4, 2 * 1024 + 4, 2 * 1024 + 3 * 64, 3 * 1024 + 2 * 4, 3 * 1024 + 64);
        outcomes("party;put 0 3;swap 0 1 0;swap 0 2 1;", 0, 13);
        outcomes("party;swap 2 3 1;", 0, 0);
        outcomes("party;swap 2 3 1;get 0 2;", 0, 12);
    }

    private static void fencesAreDrained() {
        Check.sentence("Term 5: fence: DRAINED");
        states("party;fence;", 2, 2);
        states("party;put 0 1;fence;", 4, 3);
        states("party;put 0 1;put 1 1;fence;", 7, 4);
        outcomes("party;put 0 1;fence;get 0 1;party;put 1 1;fence;get 0 0;", 2);
        outcomes("party;put 0 1;fence;get 0 1;party;put 1 1;get 0 0;", 2, 0);
        outcomes("party;fence;put 0 1;get 0 1;party;put 1 1;get 0 0;fence;", 2, 0);
    }

    private static void getsReadTheYoungest() {
        Check.sentence("Term 5: get r c: r is CELL c as READ");
        outcomes("party;put 0 1;put 0 2;get 0 0;", 0, 8);
        outcomes("party;put 0 1;put 1 2;get 0 0;get 1 1;", 0, 6);
        outcomes("party;put 0 1;put 1 2;get 0 2;", 0, 0);
        outcomes("party;put 0 1;put 0 2;party;get 0 0;get 1 0;", 0, 0, 1, 2, 5, 6, 10);
        outcomes("party;get 0 0;get 0 1;", 0, 0);
        outcomes("party;get 0 0;put 0 2;get 0 0;get 1 0;", 0, 10);
    }

    private static void statesAreOfAll() {
        Check.sentence("Term 5: STATES: ACTS done by each, REGISTERS, MEMORY, BUFFERS");
        states("party;get 0 0;", 2, 2);
        states("party;fence;party;fence;", 4, 4);
        states("party;put 0 1;party;fence;", 6, 4);
        states("party;put 0 1;party;get 0 0;", 3 + 4, 2 + 3);
        states("party;put 0 0;party;get 0 0;", 6, 4);
        states("party;swap 0 1 0;party;swap 0 2 0;", 5, 5);
        states("party;swap 0 0 0;party;swap 0 0 0;", 4, 4);
    }

    private static void statesWithoutATrial() {
        Check.sentence("26: 0 without a TRIAL");
        StoreBufferHeap heap = new StoreBufferHeap();
        Check.same("none", heap.states(false), 0);
        Check.same("none", heap.states(true), 0);
        Check.trial(heap, "party");
        Check.same("a FAULT is none", heap.states(false), 0);
        Check.trial(heap, "party;");
        Check.same("one", heap.states(false), 1);
        Check.same("one", heap.states(true), 1);
    }

    private static void strictStates() {
        Check.sentence("26: or (strict) if a put is in MEMORY at once");
        StoreBufferHeap heap = new StoreBufferHeap();
        Check.trial(heap, "party;put 0 1;put 1 1;put 2 1;put 0 2;");
        Check.same("strict first", heap.states(true), 5);
        Check.same("then all", heap.states(false), 12);
        Check.same("strict again", heap.states(true), 5);
        Check.trial(heap, "party;get 0 0;swap 0 1 1;fence;");
        Check.same("no put: alike", heap.states(true), 4);
        Check.same("no put: alike", heap.states(false), 4);
    }

    private static void outcomesNeedTheEnd() {
        Check.sentence("Term 5: OUTCOMES: all REGISTERS of STATES in which all ACTS are done and all BUFFERS "
            + "empty");
        outcomes("party;put 0 1;get 0 0;put 0 2;get 0 0;", 0, 8);
        outcomes("party;get 0 0;party;put 0 1;", 0, 0, 64);
        outcomes("party;put 0 1;put 1 2;", 0, 0);
        outcomes("party;fence;", 0, 0);
    }

    private static void outcomesToTheBaseOfFour() {
        Check.sentence("Term 5: as numbers to the base of 4 (the first PARTY's REGISTER 0 highest, then its "
            + "REGISTER 1, and so on)");
        outcomes("party;put 0 3;get 0 0;", 0, 12);
        outcomes("party;put 0 3;get 1 0;", 0, 3);
        outcomes("party;put 0 3;get 0 0;party;", 0, 12 * 16);
        outcomes("party;party;put 0 2;get 1 0;", 0, 2);
        outcomes("party;put 0 1;get 0 0;party;party;put 1 2;get 1 1;", 0, 1024 + 2);
        String most = "party;put 0 3;get 0 0;get 1 0;party;get 0 0;get 1 0;party;get 0 0;get 1 0;";
        outcomes(most, 0, 3840, 3843, 3855, 3888, 3891, 3903, 4080, 4083, 4095);
        outcomes(most, 2);
    }

    private static void outcomesOfSorts() {
        Check.sentence("27: How many OUTCOMES (sort 0), STRICT ones (1), WEAK ones (2). NONE: another sort");
        StoreBufferHeap heap = new StoreBufferHeap();
        Check.trial(heap, "party;put 0 1;get 0 1;party;put 1 1;get 0 0;");
        int[] due = {4, 3, 1};
        for (int sort = 2; sort >= 0; sort--) {
            Check.same("outcomes(" + sort + ")", heap.outcomes(sort), due[sort]);
        }
        for (int sort : new int[] {-1, 3, 4, Integer.MIN_VALUE, Integer.MAX_VALUE}) {
            Check.same("outcomes(" + sort + ")", heap.outcomes(sort), -1);
            Check.same("outcome(" + sort + ", 0)", heap.outcome(sort, 0), -1);
        }
    }

    private static void outcomesWithoutATrial() {
        Check.sentence("27: NONE: there is no TRIAL; 28: NONE: there is none such");
        StoreBufferHeap heap = new StoreBufferHeap();
        for (int sort = -1; sort <= 3; sort++) {
            Check.same("outcomes(" + sort + ")", heap.outcomes(sort), -1);
            Check.same("outcome(" + sort + ", 0)", heap.outcome(sort, 0), -1);
        }
        Check.trial(heap, "party;");
        int[] due = {1, 1, 0};
        for (int sort = 0; sort <= 2; sort++) {
            Check.same("outcomes(" + sort + ")", heap.outcomes(sort), due[sort]);
            Check.same("outcome(" + sort + ", 0)", heap.outcome(sort, 0), due[sort] - 1);
        }
    }

    private static void outcomeByNumber() {
        Check.sentence("28: The k-th of these, from 0 on, the least first. NONE: there is none such");
        StoreBufferHeap heap = new StoreBufferHeap();
        Check.trial(heap, "party;put 0 1;get 0 1;party;put 1 1;get 0 0;");
        int[][] due = {{0, 4, 64, 68}, {4, 64, 68}, {0}};
        for (int sort = 0; sort <= 2; sort++) {
            for (int k = 0; k <= 5; k++) {
                int want = k < due[sort].length ? due[sort][k] : -1;
                Check.same("outcome(" + sort + ", " + k + ")", heap.outcome(sort, k), want);
            }
            for (int far : FAR) {
                Check.same("outcome(" + sort + ", " + far + ")", heap.outcome(sort, far), -1);
            }
        }
    }

    private static void weakAreNotStrict() {
        Check.sentence("Term 5: WEAK: OUTCOMES that are not STRICT");
        String text = "party;put 0 1;get 0 0;get 1 1;party;put 1 2;get 0 1;get 1 0;";
        outcomes(text, 2, 64 + 8);
        outcomes(text, 1, 64 + 9, 96 + 8, 96 + 9);
        outcomes(text, 0, 64 + 8, 64 + 9, 96 + 8, 96 + 9);
        outcomes("party;put 0 1;put 1 1;party;get 0 1;get 1 0;", 2);
        outcomes("party;get 0 0;put 1 1;party;get 0 1;put 0 1;", 2);
    }

    private static void nineActs() {
        Check.sentence("Term 5: (9 of all together): the largest TRIALS");
        String three = "party;put 0 1;put 1 1;put 2 1;";
        states(three + three + three, 9 * 9 * 9, 64);
        states("party;swap 2 1 0;swap 2 2 1;put 2 1;party;swap 2 3 0;swap 2 3 1;put 2 2;"
            + "party;swap 2 0 0;swap 2 0 1;put 2 0;", 8673, 4026);
        StoreBufferHeap heap = new StoreBufferHeap();
        String line = "put 0 1;put 1 2;get 0 1;get 1 0;";
        Check.same("4, 4 and 1", Check.trial(heap, "party;" + line + "party;" + line + "party;swap 0 3 0;"), 3);
        Check.isTrue("STATES", heap.states(false) > heap.states(true));
        Check.same("WEAK", heap.outcomes(2), heap.outcomes(0) - heap.outcomes(1));
    }
}
