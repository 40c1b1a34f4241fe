import java.util.Arrays;

/**
 * An old typewriter whose keys go one by one, and what can still be said on it.
 * The document's promises say what each call answers; its capital words bear like names here.
 * All rows are made by the constructor and used again, so that no call makes anything.
 */
public final class WithoutE {
    public static final int NONE = -1;

    private static final int OTHERS = -2;
    private static final int KEYS = 26;
    private static final int MOST_BYTES = 300;
    private static final int MOST_LETTERS = 9;
    private static final int MOST_WORDS = 24;
    private static final int MOST_PLACES = 5;
    private static final int MOST_SENTENCES = 8;
    private static final int MOST_TEXTS = 4;
    private static final int MOST_CLAUSES = 24;
    private static final int MOST_STEPS = 30;
    private static final int MOST_LINES = 30;
    private static final int MOST_PAGE = 8;
    private static final int MOST_HEARD = 8;
    private static final int MOST_REPORT = 5;
    private static final int MOST_DAYS = 40;
    private static final int MOST_PENCE = 999;
    private static final int MOST_STIFFNESS = 99;
    private static final int LAST = 9999;
    private static final int SENSES = 12;

    private static final int TURNED = 2;
    private static final int NEAR = 3;
    private static final int HOLED = 4;
    private static final int MADE = 5;
    private static final int FIXED = 6;
    private static final int[] EXTRA_OF_KIND = {0, 1, 2, 4};

    /** Above all that a sentence can cost or be wired for: what can't be said. */
    private static final int FAR = 1000000;
    private static final int COST_UNSAID = 50;

    private static final int NO_SUCH = 0;
    private static final int NO_ROOM = 1;
    private static final int NOT_NOW = 2;

    private static final int WAS_WRITTEN = 0;
    private static final int WAS_NOT = 1;
    private static final int KEY_WENT = 2;

    private static final String CLAUSES = "stiff wears notices word say make lose turn write week";
    private static final int LAW_STIFF = 0;
    private static final int LAW_WEARS = 1;
    private static final int LAW_NOTICES = 2;
    private static final int DEED_WORD = 3;
    private static final int DEED_SAY = 4;
    private static final int DEED_MAKE = 5;
    private static final int DEED_LOSE = 6;
    private static final int DEED_TURN = 7;
    private static final int DEED_WRITE = 8;
    private static final int DEED_WEEK = 9;

    private static final String NAMES = "day lost kind told long holes extra letter use line total seconds";
    private static final int NAME_DAY = 0;
    private static final int NAME_LOST = 1;
    private static final int NAME_KIND = 2;
    private static final int NAME_TOLD = 3;
    private static final int NAME_LONG = 4;
    private static final int NAME_HOLES = 5;
    private static final int NAME_EXTRA = 6;
    private static final int NAME_LETTER = 7;
    private static final int NAME_USE = 8;
    private static final int NAME_LINE = 9;
    private static final int NAME_TOTAL = 10;
    private static final int NAME_SECONDS = 11;
    /** NONE: it may stand in each of them. */
    private static final int[] LAW_OF_NAME = {NONE, NONE, LAW_STIFF, LAW_STIFF, LAW_STIFF, LAW_STIFF, LAW_STIFF,
        LAW_WEARS, LAW_WEARS, LAW_NOTICES, LAW_NOTICES, LAW_NOTICES};

    private static final int OP_STOP = 0;
    private static final int OP_NUMBER = 1;
    private static final int OP_NAME = 2;
    private static final int OP_NEGATE = 3;
    private static final int OP_USES = 4;
    private static final int OP_NOT = 5;
    private static final int OP_SKIP_UNLESS = 6;
    private static final int OP_SKIP = 7;
    private static final int OP_ADD = 8;
    private static final int OP_TAKE = 9;
    private static final int OP_TIMES = 10;
    private static final int OP_BY = 11;
    private static final int OP_BELOW = 12;
    private static final int OP_AT_MOST = 13;
    private static final int OP_ABOVE = 14;
    private static final int OP_AT_LEAST = 15;
    private static final int OP_ALIKE = 16;
    private static final int OP_UNLIKE = 17;
    private static final int OP_AND = 18;
    private static final int OP_OR = 19;
    private static final int OP_BITS = 5;

    private final Tape tape = new Tape();
    private final Dictionary dictionary = new Dictionary();
    private final Typewriter machine = new Typewriter();
    private final Notes notes = new Notes();
    private final Text[] texts = new Text[MOST_TEXTS];
    private final Reader reader = new Reader(tape);
    private final Sound sound;
    private final Laws laws;
    private final Speech speech;
    private final Typewriter keptMachine = new Typewriter();
    private final Notes keptNotes = new Notes();
    private final int[] refused = new int[3];
    private final int[] spelled = new int[MOST_LETTERS];
    private final int[] pressed = new int[KEYS];
    private final int[] prices = new int[MOST_SENTENCES];
    private final int[] savings = new int[MOST_SENTENCES];
    private int keptWords;
    private int keptSentences;

    public WithoutE() {
        for (int i = 0; i < MOST_TEXTS; i++) {
            texts[i] = new Text();
        }
        sound = new Sound(dictionary, notes);
        laws = new Laws(dictionary, machine);
        speech = new Speech(dictionary, sound, laws);
    }

    // ---- the tape and the texts

    public int feed(int a, int b, int c, int d, int e) {
        if (tape.length + 20 > MOST_BYTES) {
            return NONE;
        }
        tape.put(a);
        tape.put(b);
        tape.put(c);
        tape.put(d);
        tape.put(e);
        return tape.length;
    }

    public int end(int n) {
        if (n < 0 || n > tape.length) {
            return NONE;
        }
        tape.length = n;
        return n;
    }

    public int text() {
        int number = notes.texts;
        if (number < 0 || number >= MOST_TEXTS) {
            return NONE;
        }
        boolean good = reader.read(texts[number]);
        tape.length = 0;
        if (!good) {
            return NONE;
        }
        notes.texts = number + 1;
        return number;
    }

    public int fault(int what) {
        if (!reader.hasRead || what < 0 || what > 1) {
            return NONE;
        }
        return what == 0 ? reader.fault : reader.place;
    }

    public boolean by(int text) {
        if (text != NONE && !hasText(text)) {
            return false;
        }
        notes.theText = text;
        return true;
    }

    public int played(int text) {
        if (!hasText(text)) {
            return OTHERS;
        }
        Text script = texts[text];
        for (int n = 0; n < script.count; n++) {
            if (!playClause(script, n)) {
                return n;
            }
        }
        return NONE;
    }

    private boolean hasText(int text) {
        return text >= 0 && text < notes.texts && text < MOST_TEXTS;
    }

    private boolean playClause(Text script, int n) {
        int first = script.part(n, 0);
        switch (script.kinds[n]) {
            case DEED_WORD:
                return addWord(script.code, script.starts[n] + 1, first, script.part(n, first + 1),
                        script.part(n, first + 2), script.part(n, first + 3)) != NONE;
            case DEED_SAY:
                return addSentence(script.code, script.starts[n] + 1, first) != NONE;
            case DEED_MAKE:
                return made(first, script.part(n, 1), script.part(n, 2));
            case DEED_LOSE:
                return key(first);
            case DEED_TURN:
                return turn(first) != NONE;
            case DEED_WRITE:
                return write(first) != NONE;
            case DEED_WEEK:
                return passDays(first);
            default:
                return true;
        }
    }

    // ---- what is told and done

    public int word(int kind, int sense, int stiff) {
        if (!tape.spells(false) || kind < 0 || kind > FIXED || !isSense(sense) || stiff < 0 || stiff > 9) {
            return refuse(NO_SUCH);
        }
        int number = addWord(tape.bytes, 0, tape.length, kind, sense, stiff);
        if (number != NONE) {
            tape.length = 0;
        }
        return number;
    }

    public int turn(int word) {
        if (!dictionary.hasWord(word)) {
            return refuse(NO_SUCH);
        }
        if (dictionary.words >= MOST_WORDS) {
            return refuse(NO_ROOM);
        }
        int length = dictionary.lengths[word];
        if (dictionary.kinds[word] != 0 || length + 3 > MOST_LETTERS) {
            return refuse(NOT_NOW);
        }
        spelled[0] = 'd';
        spelled[1] = 'i';
        spelled[2] = 'd';
        for (int i = 0; i < length; i++) {
            spelled[i + 3] = 'a' + dictionary.spelling[word][i];
        }
        return dictionary.tellWord(spelled, 0, length + 3, TURNED, dictionary.meanings[word],
                dictionary.stiffs[word]);
    }

    public int sense(int n, int a, int b, int c, int d, int e) {
        if (n < 1 || n > MOST_PLACES) {
            return refuse(NO_SUCH);
        }
        spelled[0] = a;
        spelled[1] = b;
        spelled[2] = c;
        spelled[3] = d;
        spelled[4] = e;
        for (int i = 0; i < n; i++) {
            if (!isSense(spelled[i])) {
                return refuse(NO_SUCH);
            }
        }
        return addSentence(spelled, 0, n);
    }

    public boolean made(int letter, int of, int look) {
        if (!isLetter(letter) || !isLetter(of) || letter == of || look < 0 || look > 9) {
            refuse(NO_SUCH);
            return false;
        }
        notes.madeOf[letter] = of;
        notes.looks[letter] = look;
        return true;
    }

    public boolean key(int letter) {
        if (!isLetter(letter)) {
            refuse(NO_SUCH);
            return false;
        }
        if (has(machine.lost, letter)) {
            refuse(NOT_NOW);
            return false;
        }
        machine.markStep();
        machine.lost |= 1 << letter;
        return true;
    }

    public int write(int sentence) {
        if (!dictionary.hasSentence(sentence)) {
            return refuse(NO_SUCH);
        }
        hearNow();
        if (!speech.speak(sentence)) {
            return refuse(NOT_NOW);
        }
        machine.markStep();
        typeSpoken(sentence);
        return speech.total;
    }

    public int week(int n) {
        if (n < 1 || n > MOST_DAYS) {
            return refuse(NO_SUCH);
        }
        if (machine.day + n > LAST) {
            return refuse(NOT_NOW);
        }
        passDays(n);
        return Integer.bitCount(machine.lost);
    }

    public int undo() {
        if (machine.stepCount < 1) {
            return NONE;
        }
        machine.takeBack();
        return machine.stepCount;
    }

    /** Always NONE, so that a refused call can answer it at once. */
    private int refuse(int reason) {
        if (reason >= 0 && reason < refused.length && refused[reason] < LAST) {
            refused[reason]++;
        }
        return NONE;
    }

    private int addWord(int[] bytes, int from, int length, int kind, int sense, int stiff) {
        if (dictionary.words >= MOST_WORDS) {
            return refuse(NO_ROOM);
        }
        return dictionary.tellWord(bytes, from, length, kind, sense, stiff);
    }

    private int addSentence(int[] senses, int from, int length) {
        if (dictionary.sentences >= MOST_SENTENCES) {
            return refuse(NO_ROOM);
        }
        return dictionary.tellSentence(senses, from, length);
    }

    private void typeSpoken(int sentence) {
        speech.press(machine.uses);
        machine.seconds = Math.min(LAST, machine.seconds + speech.seconds);
        machine.note(sentence, WAS_WRITTEN, speech.total);
    }

    /** False if not all could pass: those that could have passed then. */
    private boolean passDays(int n) {
        for (int i = 0; i < n && i < MOST_DAYS; i++) {
            if (machine.day >= LAST) {
                refuse(NOT_NOW);
                return false;
            }
            machine.markStep();
            if (dictionary.sentences > 0) {
                int sentence = machine.day % dictionary.sentences;
                hearNow();
                if (speech.speak(sentence)) {
                    typeSpoken(sentence);
                } else {
                    machine.note(sentence, WAS_NOT, 0);
                }
            }
            wearSomeKey();
            machine.day++;
        }
        return true;
    }

    private void wearSomeKey() {
        int letter = machine.draw(KEYS);
        if (has(machine.lost, letter)) {
            return;
        }
        if (machine.draw(10) < laws.wearOdds(ruling(), letter, machine.lost)) {
            machine.lost |= 1 << letter;
            machine.note(letter, KEY_WENT, machine.uses[letter]);
        }
    }

    // ---- words and sentences as they are now

    public int told(int word, int what) {
        if (!dictionary.hasWord(word) || what < 0 || what >= 8 + dictionary.lengths[word]) {
            return NONE;
        }
        switch (what) {
            case 0:
                return dictionary.kinds[word];
            case 1:
                return dictionary.meanings[word];
            case 2:
                return dictionary.stiffs[word];
            case 3:
                return dictionary.lengths[word];
            case 4:
                return sound.holesOf(word, machine.lost);
            case 5:
                return sound.secondsOf(word, machine.lost);
            case 6:
                return sound.canBe(word, machine.lost) ? 1 : 0;
            case 7:
                return sound.extraOf(word, machine.lost);
            default:
                return dictionary.spelling[word][what - 8];
        }
    }

    public int stiff(int word) {
        if (!dictionary.hasWord(word)) {
            return NONE;
        }
        return stiffnessBy(ruling(), word);
    }

    public int least(int sentence, int what) {
        if (what < 0 || what > 2 || !speakNow(sentence)) {
            return NONE;
        }
        if (what == 0) {
            return speech.total;
        }
        return what == 1 ? speech.seconds : speech.length;
    }

    public int sentence(int sentence, int place) {
        if (!speakNow(sentence) || place < NONE || place >= speech.places) {
            return NONE;
        }
        return place == NONE ? speech.places : speech.chosen[place];
    }

    public int states(int sentence, int place, int word) {
        if (!dictionary.hasSentence(sentence) || !dictionary.hasWord(word)
                || place < 0 || place >= dictionary.places[sentence]) {
            return NONE;
        }
        hearNow();
        int cost = speech.costUpTo(sentence, place, word);
        return cost < FAR ? cost : NONE;
    }

    public int none() {
        hearNow();
        int unsaid = 0;
        for (int s = 0; s < dictionary.sentences; s++) {
            if (speech.costOf(s) >= FAR) {
                unsaid |= 1 << s;
            }
        }
        return unsaid;
    }

    private int stiffnessBy(Text text, int word) {
        return laws.stiffness(text, word, sound.holesOf(word, machine.lost),
                sound.extraOf(word, machine.lost), Integer.bitCount(machine.lost));
    }

    /** The text whose laws hold, or null. */
    private Text ruling() {
        return hasText(notes.theText) ? texts[notes.theText] : null;
    }

    /** Whatever was heard is heard anew, as the law may ask what has changed since. */
    private void hearNow() {
        speech.forget();
        speech.suppose(ruling(), machine.lost);
    }

    private boolean speakNow(int sentence) {
        if (!dictionary.hasSentence(sentence)) {
            return false;
        }
        hearNow();
        return speech.speak(sentence);
    }

    // ---- which keys to fear for

    public int worst() {
        speech.forget();
        int worst = NONE;
        int most = NONE;
        for (int letter = 0; letter < KEYS; letter++) {
            if (!has(machine.lost, letter)) {
                int total = totalWith(machine.lost | 1 << letter);
                if (total > most) {
                    most = total;
                    worst = letter;
                }
            }
        }
        return worst;
    }

    public int few(boolean second) {
        speech.forget();
        int first = NONE;
        int other = NONE;
        int most = NONE;
        for (int a = 0; a < KEYS; a++) {
            for (int b = a + 1; b < KEYS; b++) {
                int both = 1 << a | 1 << b;
                if ((machine.lost & both) != 0) {
                    continue;
                }
                int total = totalWith(machine.lost | both);
                if (total > most) {
                    most = total;
                    first = a;
                    other = b;
                }
            }
        }
        return second ? other : first;
    }

    private int totalWith(int lost) {
        speech.suppose(ruling(), lost);
        int total = 0;
        for (int s = 0; s < dictionary.sentences; s++) {
            int cost = speech.costOf(s);
            total += cost < FAR ? cost : COST_UNSAID;
        }
        return total;
    }

    public int spare() {
        countPresses();
        int most = keyOfRank(0);
        return most == NONE || pressed[most] == 0 ? NONE : most;
    }

    public int now(int letter) {
        if (!isLetter(letter)) {
            return NONE;
        }
        countPresses();
        return pressed[letter];
    }

    public int exact(int i) {
        if (i < 0 || i >= KEYS - Integer.bitCount(machine.lost)) {
            return NONE;
        }
        countPresses();
        return keyOfRank(i);
    }

    private void countPresses() {
        Arrays.fill(pressed, 0);
        hearNow();
        for (int s = 0; s < dictionary.sentences; s++) {
            if (speech.speak(s)) {
                speech.press(pressed);
            }
        }
    }

    private int keyOfRank(int rank) {
        for (int letter = 0; letter < KEYS; letter++) {
            if (!has(machine.lost, letter) && keysAheadOf(letter) == rank) {
                return letter;
            }
        }
        return NONE;
    }

    private int keysAheadOf(int letter) {
        int ahead = 0;
        for (int other = 0; other < KEYS; other++) {
            boolean goesFirst = pressed[other] > pressed[letter]
                    || pressed[other] == pressed[letter] && other < letter;
            if (goesFirst && !has(machine.lost, other)) {
                ahead++;
            }
        }
        return ahead;
    }

    public int longer() {
        hearNow();
        int sayable = 0;
        int lettersNow = 0;
        for (int s = 0; s < dictionary.sentences; s++) {
            if (speech.speak(s)) {
                sayable |= 1 << s;
                lettersNow += speech.length;
            }
        }
        speech.suppose(ruling(), 0);
        int lettersThen = 0;
        for (int s = 0; s < dictionary.sentences; s++) {
            if (has(sayable, s) && speech.speak(s)) {
                lettersThen += speech.length;
            }
        }
        return lettersNow - lettersThen;
    }

    // ---- whose law

    public int law() {
        int agreeing = 0;
        for (int t = 0; t < notes.texts && t < MOST_TEXTS; t++) {
            if (agreesWithHeard(texts[t])) {
                agreeing |= 1 << t;
            }
        }
        return agreeing;
    }

    private boolean agreesWithHeard(Text text) {
        for (int i = 0; i < notes.heard; i++) {
            if (stiffnessBy(text, notes.heardWords[i]) != notes.heardStiffs[i]) {
                return false;
            }
        }
        return true;
    }

    public int stiffs(int word, int stiff) {
        if (word == NONE) {
            notes.heard = 0;
            return 0;
        }
        if (!dictionary.hasWord(word) || stiff < 0 || stiff > MOST_STIFFNESS || notes.heard >= MOST_HEARD) {
            return OTHERS;
        }
        notes.heardWords[notes.heard] = word;
        notes.heardStiffs[notes.heard] = stiff;
        notes.heard++;
        return notes.heard;
    }

    // ---- whether the reader notices

    public long notices(int k, boolean low) {
        if (k < 0 || k > MOST_SENTENCES) {
            return NONE;
        }
        hearNow();
        long unnoticed = waysUnnoticed(k);
        if (unnoticed == NONE) {
            return NONE;
        }
        long ways = waysInAll(k);
        long noticed = ways - unnoticed;
        long shared = sharedDivisor(ways, noticed);
        return (low ? ways : noticed) / Math.max(1, shared);
    }

    public int lines(int p) {
        if (p < 0 || p > 100) {
            return NONE;
        }
        hearNow();
        for (int k = 0; k <= MOST_SENTENCES; k++) {
            long unnoticed = waysUnnoticed(k);
            if (unnoticed == NONE) {
                return NONE;
            }
            long ways = waysInAll(k);
            if ((ways - unnoticed) * 100 >= p * ways) {
                return k;
            }
        }
        return NONE;
    }

    public int held() {
        hearNow();
        int held = NONE;
        int least = FAR;
        for (int s = 0; s < dictionary.sentences; s++) {
            if (speech.speak(s)) {
                int odds = noticeOdds(0);
                if (odds < least) {
                    least = odds;
                    held = s;
                }
            }
        }
        return held;
    }

    private int noticeOdds(int line) {
        return laws.noticeOdds(ruling(), line, speech.total, speech.seconds, machine.lost);
    }

    /** Of 10 to the k draws those by which no line is noticed; NONE if there are no k lines. */
    private long waysUnnoticed(int k) {
        long ways = 1;
        int line = 0;
        for (int s = 0; s < dictionary.sentences && line < k; s++) {
            if (speech.speak(s)) {
                ways *= 10 - noticeOdds(line);
                line++;
            }
        }
        return line == k ? ways : NONE;
    }

    private static long waysInAll(int k) {
        long ways = 1;
        for (int i = 0; i < k; i++) {
            ways *= 10;
        }
        return ways;
    }

    private static long sharedDivisor(long a, long b) {
        long high = a;
        long low = b;
        for (int i = 0; i < 100 && low != 0; i++) {
            long rest = high % low;
            high = low;
            low = rest;
        }
        return high;
    }

    // ---- what a strange page was written on

    public int page(int word) {
        if (word == NONE) {
            notes.pageWords = 0;
            return 0;
        }
        if (!dictionary.hasWord(word)) {
            refuse(NO_SUCH);
            return OTHERS;
        }
        if (notes.pageWords >= MOST_PAGE) {
            refuse(NO_ROOM);
            return OTHERS;
        }
        notes.pages[notes.pageWords] = word;
        notes.pageWords++;
        return notes.pageWords;
    }

    public int wrote(int what) {
        int typed = keysOfPage();
        int free = KEYS - Integer.bitCount(typed);
        switch (what) {
            case 0:
                return free + free * (free - 1) / 2;
            case 1:
                return free == 1 ? (1 << KEYS) - 1 - typed : 0;
            case 2:
                return typed;
            default:
                return NONE;
        }
    }

    public int fewest() {
        int typed = keysOfPage();
        int fewest = NONE;
        int most = 0;
        for (int word = 0; word < dictionary.words; word++) {
            if (dictionary.kinds[word] <= NEAR) {
                int doubtful = Integer.bitCount(dictionary.lettersOf(word) & ~typed);
                if (doubtful > most) {
                    most = doubtful;
                    fewest = word;
                }
            }
        }
        return fewest;
    }

    /** Words of the other kinds could have been written without their keys: they tell nothing. */
    private int keysOfPage() {
        int typed = 0;
        for (int i = 0; i < notes.pageWords; i++) {
            int word = notes.pages[i];
            if (dictionary.hasWord(word) && dictionary.kinds[word] <= NEAR) {
                typed |= dictionary.lettersOf(word);
            }
        }
        return typed;
    }

    // ---- made letters

    public int letters(int letter) {
        if (!isLetter(letter)) {
            return NONE;
        }
        int found = 0;
        int at = letter;
        for (int step = 0; step < KEYS; step++) {
            at = notes.madeOf[at];
            if (!isLetter(at)) {
                break;
            }
            found |= 1 << at;
        }
        return found & ~(1 << letter);
    }

    public int lot(int word) {
        if (!dictionary.hasWord(word)) {
            return NONE;
        }
        int likeOnes = 0;
        int least = FAR;
        for (int i = 0; i < dictionary.lengths[word]; i++) {
            int letter = dictionary.spelling[word][i];
            if (has(machine.lost, letter) && sound.isMendable(letter, machine.lost)) {
                int look = notes.looks[letter];
                if (look < least) {
                    least = look;
                    likeOnes = 0;
                }
                if (look == least) {
                    likeOnes |= 1 << letter;
                }
            }
        }
        return likeOnes == 0 ? NONE : bitOfRank(likeOnes, machine.x % Integer.bitCount(likeOnes));
    }

    private static int bitOfRank(int bits, int rank) {
        int ahead = 0;
        for (int i = 0; i < KEYS; i++) {
            if (has(bits, i)) {
                if (ahead == rank) {
                    return i;
                }
                ahead++;
            }
        }
        return NONE;
    }

    // ---- the telegraph

    public int wire(int sentence) {
        return speakNow(sentence) ? speech.pence : NONE;
    }

    public int worth(int sentence) {
        return speakNow(sentence) ? speech.seconds : NONE;
    }

    public int line(int pence, boolean saved) {
        if (pence < 0 || pence > MOST_PENCE) {
            return NONE;
        }
        priceSentences();
        int bestSet = 0;
        int bestPrice = 0;
        int bestSaving = 0;
        for (int set = 1; set < 1 << dictionary.sentences; set++) {
            int price = sumOver(set, prices);
            int saving = sumOver(set, savings);
            boolean better = saving > bestSaving || saving == bestSaving && price < bestPrice;
            if (price <= pence && better) {
                bestSet = set;
                bestPrice = price;
                bestSaving = saving;
            }
        }
        return saved ? bestSaving : bestSet;
    }

    private void priceSentences() {
        hearNow();
        for (int s = 0; s < dictionary.sentences; s++) {
            boolean said = speech.speak(s);
            prices[s] = said ? speech.pence : FAR;
            savings[s] = said ? speech.seconds : 0;
        }
    }

    private static int sumOver(int set, int[] row) {
        int sum = 0;
        for (int i = 0; i < row.length; i++) {
            if (has(set, i)) {
                sum += row[i];
            }
        }
        return sum;
    }

    public int all() {
        return SENSES - Integer.bitCount(senses());
    }

    public int senses() {
        int unsaid = (1 << SENSES) - 1;
        for (int word = 0; word < dictionary.words; word++) {
            if (sound.canBe(word, machine.lost)) {
                unsaid &= ~(1 << dictionary.meanings[word]);
            }
        }
        return unsaid;
    }

    // ---- what a report with holes meant

    public int report() {
        if (!tape.spells(true)) {
            return refuse(NO_SUCH);
        }
        int number = notes.reported;
        if (number < 0 || number >= MOST_REPORT) {
            return refuse(NO_ROOM);
        }
        for (int i = 0; i < tape.length; i++) {
            notes.reports[number][i] = tape.bytes[i];
        }
        notes.reportLengths[number] = tape.length;
        notes.reported = number + 1;
        tape.length = 0;
        return notes.reported;
    }

    public int clear() {
        notes.reported = 0;
        return 0;
    }

    public int meant(int i) {
        if (i < 0 || i >= notes.reported) {
            return NONE;
        }
        int words = 0;
        for (int word = 0; word < dictionary.words; word++) {
            if (dictionary.lengths[word] == notes.reportLengths[i]
                    && isAlike(dictionary.spelling[word], notes.reports[i], dictionary.lengths[word])) {
                words |= 1 << word;
            }
        }
        return words;
    }

    public int fits() {
        int fitting = 0;
        for (int s = 0; s < dictionary.sentences; s++) {
            if (dictionary.places[s] == notes.reported && fitsReport(s)) {
                fitting |= 1 << s;
            }
        }
        return fitting;
    }

    private boolean fitsReport(int sentence) {
        for (int i = 0; i < notes.reported; i++) {
            int words = meant(i);
            boolean found = false;
            for (int word = 0; word < dictionary.words; word++) {
                found |= has(words, word) && dictionary.meanings[word] == dictionary.rows[sentence][i];
            }
            if (!found) {
                return false;
            }
        }
        return true;
    }

    private static boolean isAlike(int[] letters, int[] bytes, int length) {
        for (int i = 0; i < length; i++) {
            if (bytes[i] != '-' && bytes[i] != 'a' + letters[i]) {
                return false;
            }
        }
        return true;
    }

    // ---- how things stand

    public int is(int what) {
        switch (what) {
            case 0:
                return machine.day;
            case 1:
                return machine.lost;
            case 2:
                return machine.seconds;
            case 3:
                return machine.x;
            default:
                return OTHERS;
        }
    }

    public int use(int letter) {
        return isLetter(letter) ? machine.uses[letter] : NONE;
    }

    public int book(int i, int what) {
        int shown = machine.linesShown();
        if (i == NONE) {
            return shown;
        }
        if (i < 0 || i >= shown || what < 0 || what > 3) {
            return OTHERS;
        }
        return machine.linePart(i, what);
    }

    /** Words, sentences and texts are only ever added, so their numbers alone are kept. */
    public int image() {
        keptMachine.copyOf(machine);
        keptNotes.copyOf(notes);
        keptWords = dictionary.words;
        keptSentences = dictionary.sentences;
        return machine.day;
    }

    public int restore() {
        machine.copyOf(keptMachine);
        notes.copyOf(keptNotes);
        dictionary.words = keptWords;
        dictionary.sentences = keptSentences;
        return machine.day;
    }

    public int status(int reason) {
        return reason >= 0 && reason < refused.length ? refused[reason] : OTHERS;
    }

    public int about(int what) {
        switch (what) {
            case 0:
                return dictionary.words;
            case 1:
                return dictionary.sentences;
            case 2:
                return notes.texts;
            case 3:
                return notes.theText;
            case 4:
                return machine.stepCount;
            case 5:
                return notes.pageWords;
            case 6:
                return notes.reported;
            case 7:
                return notes.heard;
            case 8:
                return tape.length;
            default:
                return OTHERS;
        }
    }

    private static boolean isLetter(int letter) {
        return letter >= 0 && letter < KEYS;
    }

    private static boolean isSense(int sense) {
        return sense >= 0 && sense < SENSES;
    }

    private static boolean has(int bits, int i) {
        return (bits >> i & 1) != 0;
    }

    private static boolean isSmall(int b) {
        return b >= 'a' && b <= 'z';
    }

    private static final class Tape {
        final int[] bytes = new int[MOST_BYTES];
        int length;

        void put(int four) {
            for (int shift = 24; shift >= 0 && length < MOST_BYTES; shift -= 8) {
                bytes[length] = four >>> shift & 255;
                length++;
            }
        }

        /** Whether all of it could be one word, which may have - for a letter if holes may be. */
        boolean spells(boolean withHoles) {
            if (length < 1 || length > MOST_LETTERS) {
                return false;
            }
            for (int i = 0; i < length; i++) {
                if (!isSmall(bytes[i]) && !(withHoles && bytes[i] == '-')) {
                    return false;
                }
            }
            return true;
        }
    }

    /** The words and sentences told; none is ever changed. */
    private static final class Dictionary {
        final int[][] spelling = new int[MOST_WORDS][MOST_LETTERS];
        final int[] lengths = new int[MOST_WORDS];
        final int[] kinds = new int[MOST_WORDS];
        final int[] meanings = new int[MOST_WORDS];
        final int[] stiffs = new int[MOST_WORDS];
        int words;
        final int[][] rows = new int[MOST_SENTENCES][MOST_PLACES];
        final int[] places = new int[MOST_SENTENCES];
        int sentences;

        boolean hasWord(int word) {
            return word >= 0 && word < words && word < MOST_WORDS;
        }

        boolean hasSentence(int sentence) {
            return sentence >= 0 && sentence < sentences && sentence < MOST_SENTENCES;
        }

        int tellWord(int[] bytes, int from, int length, int kind, int sense, int stiff) {
            if (words >= MOST_WORDS || length > MOST_LETTERS || from < 0 || from + length > bytes.length) {
                return NONE;
            }
            for (int i = 0; i < length; i++) {
                spelling[words][i] = bytes[from + i] - 'a';
            }
            lengths[words] = length;
            kinds[words] = kind;
            meanings[words] = sense;
            stiffs[words] = stiff;
            words++;
            return words - 1;
        }

        int tellSentence(int[] senses, int from, int length) {
            if (sentences >= MOST_SENTENCES || length > MOST_PLACES || from < 0
                    || from + length > senses.length) {
                return NONE;
            }
            for (int i = 0; i < length; i++) {
                rows[sentences][i] = senses[from + i];
            }
            places[sentences] = length;
            sentences++;
            return sentences - 1;
        }

        int lettersOf(int word) {
            int bits = 0;
            for (int i = 0; i < lengths[word]; i++) {
                bits |= 1 << spelling[word][i];
            }
            return bits;
        }
    }

    /** All that a step taken back sets right again, with the steps themselves. */
    private static final class Typewriter {
        /** A step notes two lines at most: what the eldest step takes back is still in the ring. */
        static final int RING = MOST_LINES + 2 * MOST_STEPS;
        static final int LINE_SIZE = 4;
        static final int STEP_SIZE = KEYS + 5;

        int lost;
        final int[] uses = new int[KEYS];
        int seconds;
        int day;
        int x = 173;
        final int[] lineRing = new int[RING * LINE_SIZE];
        /** Of all lines ever noted and not taken back, so that the place in the ring is told by it. */
        int lineCount;
        final int[] steps = new int[MOST_STEPS * STEP_SIZE];
        int eldestStep;
        int stepCount;

        void copyOf(Typewriter other) {
            lost = other.lost;
            System.arraycopy(other.uses, 0, uses, 0, KEYS);
            seconds = other.seconds;
            day = other.day;
            x = other.x;
            System.arraycopy(other.lineRing, 0, lineRing, 0, lineRing.length);
            lineCount = other.lineCount;
            System.arraycopy(other.steps, 0, steps, 0, steps.length);
            eldestStep = other.eldestStep;
            stepCount = other.stepCount;
        }

        /** A number below the one given, which is not 0. */
        int draw(int by) {
            int drawn = x % by;
            x = (x * 409 + 283) % 30517;
            return drawn;
        }

        void note(int which, int what, int howMuch) {
            int at = lineCount % RING * LINE_SIZE;
            lineRing[at] = day;
            lineRing[at + 1] = which;
            lineRing[at + 2] = what;
            lineRing[at + 3] = howMuch;
            lineCount++;
        }

        int linesShown() {
            return Math.min(lineCount, MOST_LINES);
        }

        int linePart(int i, int part) {
            return lineRing[(lineCount - linesShown() + i) % RING * LINE_SIZE + part];
        }

        void markStep() {
            int at = (eldestStep + stepCount) % MOST_STEPS * STEP_SIZE;
            if (stepCount == MOST_STEPS) {
                eldestStep = (eldestStep + 1) % MOST_STEPS;
            } else {
                stepCount++;
            }
            System.arraycopy(uses, 0, steps, at, KEYS);
            steps[at + KEYS] = lost;
            steps[at + KEYS + 1] = seconds;
            steps[at + KEYS + 2] = day;
            steps[at + KEYS + 3] = x;
            steps[at + KEYS + 4] = lineCount;
        }

        void takeBack() {
            if (stepCount < 1) {
                return;
            }
            stepCount--;
            int at = (eldestStep + stepCount) % MOST_STEPS * STEP_SIZE;
            System.arraycopy(steps, at, uses, 0, KEYS);
            lost = steps[at + KEYS];
            seconds = steps[at + KEYS + 1];
            day = steps[at + KEYS + 2];
            x = steps[at + KEYS + 3];
            lineCount = steps[at + KEYS + 4];
        }
    }

    /** What is told and may be told anew. */
    private static final class Notes {
        final int[] madeOf = new int[KEYS];
        final int[] looks = new int[KEYS];
        int texts;
        int theText = NONE;
        final int[] pages = new int[MOST_PAGE];
        int pageWords;
        final int[][] reports = new int[MOST_REPORT][MOST_LETTERS];
        final int[] reportLengths = new int[MOST_REPORT];
        int reported;
        final int[] heardWords = new int[MOST_HEARD];
        final int[] heardStiffs = new int[MOST_HEARD];
        int heard;

        Notes() {
            Arrays.fill(madeOf, NONE);
        }

        void copyOf(Notes other) {
            System.arraycopy(other.madeOf, 0, madeOf, 0, KEYS);
            System.arraycopy(other.looks, 0, looks, 0, KEYS);
            texts = other.texts;
            theText = other.theText;
            System.arraycopy(other.pages, 0, pages, 0, MOST_PAGE);
            pageWords = other.pageWords;
            for (int i = 0; i < MOST_REPORT; i++) {
                System.arraycopy(other.reports[i], 0, reports[i], 0, MOST_LETTERS);
            }
            System.arraycopy(other.reportLengths, 0, reportLengths, 0, MOST_REPORT);
            reported = other.reported;
            System.arraycopy(other.heardWords, 0, heardWords, 0, MOST_HEARD);
            System.arraycopy(other.heardStiffs, 0, heardStiffs, 0, MOST_HEARD);
            heard = other.heard;
        }
    }

    /**
     * A text that was read. A law is a row of steps for a stack; another clause is the row of its numbers.
     * No clause puts more into the row than it has bytes, so that there is room for any text.
     */
    private static final class Text {
        final int[] code = new int[MOST_BYTES];
        int used;
        final int[] kinds = new int[MOST_CLAUSES];
        final int[] starts = new int[MOST_CLAUSES];
        int count;
        final int[] lawStarts = new int[LAW_NOTICES + 1];

        void empty() {
            used = 0;
            count = 0;
            Arrays.fill(lawStarts, NONE);
        }

        void begin(int kind) {
            if (count >= MOST_CLAUSES) {
                return;
            }
            kinds[count] = kind;
            starts[count] = used;
            count++;
            if (kind <= LAW_NOTICES) {
                lawStarts[kind] = used;
            }
        }

        void put(int number) {
            if (used < MOST_BYTES) {
                code[used] = number;
                used++;
            }
        }

        void set(int at, int number) {
            if (at >= 0 && at < used) {
                code[at] = number;
            }
        }

        int part(int clause, int i) {
            int at = starts[clause] + i;
            return at >= 0 && at < used ? code[at] : 0;
        }
    }

    /** Reads the tape, token by token, into a text. */
    private static final class Reader {
        static final int END = 0;
        static final int WORD = 1;
        static final int NUMBER = 2;
        static final int NOTHING = 3;
        static final int AT_MOST = 4;
        static final int AT_LEAST = 5;

        static final int CANT_STAND = 1;
        static final int NUMBER_UNTOLD = 2;
        static final int TOO_DEEP = 3;
        static final int LAW_AGAIN = 4;
        static final int NAME_ELSEWHERE = 5;
        static final int CLAUSE_TOO_MANY = 6;
        static final int NOT_LETTERS = 7;
        static final int SENSE_TOO_MANY = 8;
        static final int MOST_OPEN = 8;

        final Tape tape;
        Text out;
        boolean hasRead;
        int fault;
        int place = NONE;
        /** The token that is looked at: from start to next, a sign being its own sort. */
        int sort;
        int start;
        int next;
        int law;

        Reader(Tape tape) {
            this.tape = tape;
        }

        boolean read(Text into) {
            out = into;
            out.empty();
            hasRead = true;
            fault = 0;
            place = NONE;
            next = 0;
            advance();
            for (int n = 0; n <= MOST_CLAUSES && sort != END; n++) {
                if (!readClause(n)) {
                    return false;
                }
            }
            return true;
        }

        /** Always false, so that whoever meets the fault can answer it at once. */
        private boolean fail(int what) {
            fault = what;
            place = start;
            return false;
        }

        private void advance() {
            while (next < tape.length && (tape.bytes[next] == ' ' || tape.bytes[next] == 10)) {
                next++;
            }
            start = next;
            if (next >= tape.length) {
                sort = END;
                return;
            }
            sort = sortOf(tape.bytes[next]);
            next++;
            if (sort == WORD || sort == NUMBER) {
                while (next < tape.length && sortOf(tape.bytes[next]) == sort) {
                    next++;
                }
            } else if ((sort == '<' || sort == '>') && next < tape.length && tape.bytes[next] == '=') {
                sort = sort == '<' ? AT_MOST : AT_LEAST;
                next++;
            }
        }

        private static int sortOf(int b) {
            if (b >= 'a' && b <= 'z' || b >= 'A' && b <= 'Z') {
                return WORD;
            }
            if (b >= '0' && b <= '9') {
                return NUMBER;
            }
            switch (b) {
                case '<':
                case '>':
                case '=':
                case '#':
                case '+':
                case '-':
                case '*':
                case '/':
                case '(':
                case ')':
                case ',':
                case ';':
                    return b;
                default:
                    return NOTHING;
            }
        }

        /** Of a token of digits; any that is too high for all places is the same here. */
        private int number() {
            int number = 0;
            for (int i = start; i < next; i++) {
                number = Math.min(number * 10 + tape.bytes[i] - '0', LAST + 1);
            }
            return number;
        }

        private boolean isToken(String wanted) {
            if (sort != WORD || next - start != wanted.length()) {
                return false;
            }
            for (int i = 0; i < wanted.length(); i++) {
                if (tape.bytes[start + i] != wanted.charAt(i)) {
                    return false;
                }
            }
            return true;
        }

        /** Which of a row of words with blanks between them the token is, from 0; NONE: none of them. */
        private int rankIn(String row) {
            int rank = 0;
            int at = start;
            boolean alike = sort == WORD;
            for (int i = 0; i < row.length(); i++) {
                if (row.charAt(i) == ' ') {
                    if (alike && at == next) {
                        return rank;
                    }
                    rank++;
                    at = start;
                    alike = sort == WORD;
                } else {
                    alike = alike && at < next && tape.bytes[at] == row.charAt(i);
                    at++;
                }
            }
            return alike && at == next ? rank : NONE;
        }

        private boolean expectSign(int sign) {
            if (sort != sign) {
                return fail(CANT_STAND);
            }
            advance();
            return true;
        }

        private boolean expectToken(String wanted) {
            if (!isToken(wanted)) {
                return fail(CANT_STAND);
            }
            advance();
            return true;
        }

        private boolean readClause(int n) {
            int kind = rankIn(CLAUSES);
            if (kind == NONE) {
                return fail(CANT_STAND);
            }
            if (kind <= LAW_NOTICES && out.lawStarts[kind] != NONE) {
                return fail(LAW_AGAIN);
            }
            if (n >= MOST_CLAUSES) {
                return fail(CLAUSE_TOO_MANY);
            }
            out.begin(kind);
            advance();
            law = kind;
            boolean good = kind <= LAW_NOTICES ? readSum(0) && putOp(OP_STOP) : readDeed(kind);
            return good && expectSign(';');
        }

        private boolean readDeed(int kind) {
            switch (kind) {
                case DEED_WORD:
                    return readLetters() && expectToken("kind") && readNumber(0, FIXED)
                            && expectToken("sense") && readNumber(0, SENSES - 1)
                            && expectToken("stiff") && readNumber(0, 9);
                case DEED_SAY:
                    return readSenses();
                case DEED_MAKE:
                    return readLetter() && expectToken("of") && readLetter()
                            && expectToken("look") && readNumber(0, 9);
                case DEED_LOSE:
                    return readLetter();
                case DEED_TURN:
                    return readNumber(0, MOST_WORDS - 1);
                case DEED_WRITE:
                    return readNumber(0, MOST_SENTENCES - 1);
                default:
                    return readNumber(1, MOST_DAYS);
            }
        }

        private boolean readNumber(int low, int high) {
            if (sort != NUMBER) {
                return fail(CANT_STAND);
            }
            int number = number();
            if (number < low || number > high) {
                return fail(NUMBER_UNTOLD);
            }
            out.put(number);
            advance();
            return true;
        }

        private boolean readSenses() {
            int counter = out.used;
            out.put(0);
            for (int n = 1; n <= MOST_PLACES; n++) {
                if (!readNumber(0, SENSES - 1)) {
                    return false;
                }
                out.set(counter, n);
                if (sort != ',') {
                    return true;
                }
                if (n < MOST_PLACES) {
                    advance();
                }
            }
            return fail(SENSE_TOO_MANY);
        }

        private boolean readLetters() {
            if (!checkLetters(MOST_LETTERS)) {
                return false;
            }
            out.put(next - start);
            for (int i = start; i < next; i++) {
                out.put(tape.bytes[i]);
            }
            advance();
            return true;
        }

        private boolean readLetter() {
            if (!checkLetters(1)) {
                return false;
            }
            out.put(tape.bytes[start] - 'a');
            advance();
            return true;
        }

        private boolean checkLetters(int most) {
            if (sort != WORD) {
                return fail(CANT_STAND);
            }
            if (next - start > most) {
                return fail(NOT_LETTERS);
            }
            for (int i = start; i < next; i++) {
                if (!isSmall(tape.bytes[i])) {
                    return fail(NOT_LETTERS);
                }
            }
            return true;
        }

        private boolean readSum(int open) {
            if (!readProduct(open)) {
                return false;
            }
            for (int more = 0; more < MOST_BYTES && (sort == '+' || sort == '-'); more++) {
                int op = sort == '+' ? OP_ADD : OP_TAKE;
                advance();
                if (!readProduct(open)) {
                    return false;
                }
                out.put(op);
            }
            return true;
        }

        private boolean readProduct(int open) {
            if (!readOne(open)) {
                return false;
            }
            for (int more = 0; more < MOST_BYTES && (sort == '*' || sort == '/'); more++) {
                int op = sort == '*' ? OP_TIMES : OP_BY;
                advance();
                if (!readOne(open)) {
                    return false;
                }
                out.put(op);
            }
            return true;
        }

        private boolean readOne(int open) {
            if (sort == NUMBER) {
                return readPlainNumber();
            }
            if (sort == '(') {
                return goDeeper(open) && readSum(open + 1) && expectSign(')');
            }
            if (sort == '-') {
                return goDeeper(open) && readOne(open + 1) && putOp(OP_NEGATE);
            }
            if (isToken("uses")) {
                return goDeeper(open) && readOne(open + 1) && putOp(OP_USES);
            }
            if (isToken("if")) {
                return goDeeper(open) && readChoice(open + 1);
            }
            return readName();
        }

        private boolean goDeeper(int open) {
            if (open >= MOST_OPEN) {
                return fail(TOO_DEEP);
            }
            advance();
            return true;
        }

        private boolean putOp(int op) {
            out.put(op);
            return true;
        }

        private boolean readPlainNumber() {
            int number = number();
            if (number > LAST) {
                return fail(NUMBER_UNTOLD);
            }
            out.put(OP_NUMBER | number << OP_BITS);
            advance();
            return true;
        }

        private boolean readName() {
            int name = rankIn(NAMES);
            if (name < 0 || name >= LAW_OF_NAME.length) {
                return fail(CANT_STAND);
            }
            if (LAW_OF_NAME[name] != NONE && LAW_OF_NAME[name] != law) {
                return fail(NAME_ELSEWHERE);
            }
            out.put(OP_NAME | name << OP_BITS);
            advance();
            return true;
        }

        private boolean readChoice(int open) {
            if (!readEither(open) || !expectToken("then")) {
                return false;
            }
            int unless = out.used;
            out.put(OP_SKIP_UNLESS);
            if (!readSum(open) || !expectToken("else")) {
                return false;
            }
            int skip = out.used;
            out.put(OP_SKIP);
            out.set(unless, OP_SKIP_UNLESS | out.used << OP_BITS);
            if (!readSum(open) || !expectToken("end")) {
                return false;
            }
            out.set(skip, OP_SKIP | out.used << OP_BITS);
            return true;
        }

        private boolean readEither(int open) {
            if (!readBoth(open)) {
                return false;
            }
            for (int more = 0; more < MOST_BYTES && isToken("or"); more++) {
                advance();
                if (!readBoth(open)) {
                    return false;
                }
                out.put(OP_OR);
            }
            return true;
        }

        private boolean readBoth(int open) {
            if (!readAsk(open)) {
                return false;
            }
            for (int more = 0; more < MOST_BYTES && isToken("and"); more++) {
                advance();
                if (!readAsk(open)) {
                    return false;
                }
                out.put(OP_AND);
            }
            return true;
        }

        private boolean readAsk(int open) {
            if (isToken("not")) {
                return goDeeper(open) && readAsk(open + 1) && putOp(OP_NOT);
            }
            if (!readSum(open)) {
                return false;
            }
            int op = comparison();
            if (op == NONE) {
                return fail(CANT_STAND);
            }
            advance();
            return readSum(open) && putOp(op);
        }

        private int comparison() {
            switch (sort) {
                case '<':
                    return OP_BELOW;
                case AT_MOST:
                    return OP_AT_MOST;
                case '>':
                    return OP_ABOVE;
                case AT_LEAST:
                    return OP_AT_LEAST;
                case '=':
                    return OP_ALIKE;
                case '#':
                    return OP_UNLIKE;
                default:
                    return NONE;
            }
        }
    }

    /** What losing some keys makes of a word; the keys are given, as they may only be supposed to be lost. */
    private static final class Sound {
        final Dictionary dictionary;
        final Notes notes;

        Sound(Dictionary dictionary, Notes notes) {
            this.dictionary = dictionary;
            this.notes = notes;
        }

        int holesOf(int word, int lost) {
            int holes = 0;
            for (int i = 0; i < dictionary.lengths[word]; i++) {
                if (has(lost, dictionary.spelling[word][i])) {
                    holes++;
                }
            }
            return holes;
        }

        int extraOf(int word, int lost) {
            int kind = dictionary.kinds[word];
            if (kind >= 0 && kind < EXTRA_OF_KIND.length) {
                return EXTRA_OF_KIND[kind];
            }
            if (kind == HOLED) {
                return holesOf(word, lost);
            }
            return kind == MADE ? looksOf(word, lost) : 0;
        }

        private int looksOf(int word, int lost) {
            int looks = 0;
            for (int i = 0; i < dictionary.lengths[word]; i++) {
                int letter = dictionary.spelling[word][i];
                if (has(lost, letter)) {
                    looks += notes.looks[letter];
                }
            }
            return looks;
        }

        int secondsOf(int word, int lost) {
            switch (dictionary.kinds[word]) {
                case HOLED:
                    return 6 * holesOf(word, lost);
                case FIXED:
                    return 9 * holesOf(word, lost);
                default:
                    return 0;
            }
        }

        boolean canBe(int word, int lost) {
            int kind = dictionary.kinds[word];
            if (kind == HOLED || kind == FIXED) {
                return true;
            }
            for (int i = 0; i < dictionary.lengths[word]; i++) {
                int letter = dictionary.spelling[word][i];
                if (has(lost, letter) && (kind != MADE || !isMendable(letter, lost))) {
                    return false;
                }
            }
            return true;
        }

        boolean isMendable(int letter, int lost) {
            int of = notes.madeOf[letter];
            return isLetter(of) && !has(lost, of);
        }

        /** The key that is struck for a letter of a word that can be; NONE: it is left for the hand. */
        int keyFor(int word, int i, int lost) {
            int letter = dictionary.spelling[word][i];
            if (!has(lost, letter)) {
                return letter;
            }
            return dictionary.kinds[word] == MADE ? notes.madeOf[letter] : NONE;
        }
    }

    /** Answers what the laws of a text say, or what holds without them. */
    private static final class Laws {
        static final int STACK = 64;
        static final int MOST = 1000000;

        final Dictionary dictionary;
        final Typewriter machine;
        final int[] names = new int[NAME_SECONDS + 1];
        final int[] stack = new int[STACK];
        int height;

        Laws(Dictionary dictionary, Typewriter machine) {
            this.dictionary = dictionary;
            this.machine = machine;
        }

        int stiffness(Text text, int word, int holes, int extra, int gone) {
            if (text == null || text.lawStarts[LAW_STIFF] == NONE) {
                return dictionary.stiffs[word] + extra;
            }
            names[NAME_LOST] = gone;
            names[NAME_KIND] = dictionary.kinds[word];
            names[NAME_TOLD] = dictionary.stiffs[word];
            names[NAME_LONG] = dictionary.lengths[word];
            names[NAME_HOLES] = holes;
            names[NAME_EXTRA] = extra;
            return within(run(text, text.lawStarts[LAW_STIFF]), MOST_STIFFNESS);
        }

        int wearOdds(Text text, int letter, int lost) {
            if (text == null || text.lawStarts[LAW_WEARS] == NONE) {
                return within(machine.uses[letter] / 10, 10);
            }
            names[NAME_LOST] = Integer.bitCount(lost);
            names[NAME_LETTER] = letter;
            names[NAME_USE] = machine.uses[letter];
            return within(run(text, text.lawStarts[LAW_WEARS]), 10);
        }

        int noticeOdds(Text text, int line, int total, int seconds, int lost) {
            if (text == null || text.lawStarts[LAW_NOTICES] == NONE) {
                return within(total / 4, 10);
            }
            names[NAME_LOST] = Integer.bitCount(lost);
            names[NAME_LINE] = line;
            names[NAME_TOTAL] = total;
            names[NAME_SECONDS] = seconds;
            return within(run(text, text.lawStarts[LAW_NOTICES]), 10);
        }

        private static int within(int value, int most) {
            return value < 0 ? 0 : value > most ? most : value;
        }

        /** A law only ever skips ahead, so its row's length bounds the steps. */
        private int run(Text text, int from) {
            names[NAME_DAY] = machine.day;
            height = 0;
            int at = from;
            for (int steps = 0; steps < MOST_BYTES && at >= 0 && at < text.used; steps++) {
                int op = text.code[at] & (1 << OP_BITS) - 1;
                int operand = text.code[at] >> OP_BITS;
                at++;
                switch (op) {
                    case OP_STOP:
                        return pop();
                    case OP_NUMBER:
                        push(operand);
                        break;
                    case OP_NAME:
                        push(operand >= 0 && operand < names.length ? names[operand] : 0);
                        break;
                    case OP_NEGATE:
                        push(-pop());
                        break;
                    case OP_USES:
                        push(usesOf(pop()));
                        break;
                    case OP_NOT:
                        push(1 - pop());
                        break;
                    case OP_SKIP_UNLESS:
                        at = pop() == 0 ? operand : at;
                        break;
                    case OP_SKIP:
                        at = operand;
                        break;
                    default:
                        int right = pop();
                        push(clipped(join(op, pop(), right)));
                        break;
                }
            }
            return pop();
        }

        private void push(int value) {
            if (height < STACK) {
                stack[height] = value;
                height++;
            }
        }

        private int pop() {
            if (height < 1) {
                return 0;
            }
            height--;
            return stack[height];
        }

        private int usesOf(int letter) {
            return letter >= 0 && letter < machine.uses.length ? machine.uses[letter] : 0;
        }

        private static long join(int op, int left, int right) {
            switch (op) {
                case OP_ADD:
                    return (long) left + right;
                case OP_TAKE:
                    return (long) left - right;
                case OP_TIMES:
                    return (long) left * right;
                case OP_BY:
                    return right == 0 ? 0 : left / right;
                case OP_BELOW:
                    return left < right ? 1 : 0;
                case OP_AT_MOST:
                    return left <= right ? 1 : 0;
                case OP_ABOVE:
                    return left > right ? 1 : 0;
                case OP_AT_LEAST:
                    return left >= right ? 1 : 0;
                case OP_ALIKE:
                    return left == right ? 1 : 0;
                case OP_UNLIKE:
                    return left != right ? 1 : 0;
                case OP_AND:
                    return left & right;
                default:
                    return left | right;
            }
        }

        private static int clipped(long value) {
            return value > MOST ? MOST : value < -MOST ? -MOST : (int) value;
        }
    }

    /** The two least costs that were seen, so that any word can be left out. */
    private static final class Lowest {
        int least;
        int second;
        int word;

        void start() {
            least = FAR;
            second = FAR;
            word = NONE;
        }

        void see(int other, int cost) {
            if (cost < least) {
                second = least;
                least = cost;
                word = other;
            } else if (cost < second) {
                second = cost;
            }
        }

        int without(int left) {
            return left == word ? second : least;
        }
    }

    /** The least stiff way to say a sentence, with keys that are lost or are supposed to be. */
    private static final class Speech {
        static final int COST_SAME = 3;
        static final int COST_TURNED = 1;
        static final int HOLES = MOST_LETTERS + 1;

        final Dictionary dictionary;
        final Sound sound;
        final Laws laws;
        int lost;
        final boolean[] can = new boolean[MOST_WORDS];
        final int[] stiffness = new int[MOST_WORDS];
        /** Laws are dear to ask: what a word with so many holes sounded like, while as many keys are lost. */
        final int[] heldExtra = new int[MOST_WORDS * HOLES];
        final int[] heldStiffness = new int[MOST_WORDS * HOLES];
        int heldGone = NONE;
        final int[][] costs = new int[MOST_PLACES][MOST_WORDS];
        final Lowest turned = new Lowest();
        final Lowest others = new Lowest();

        /** Of the sentence that was spoken last. */
        final int[] chosen = new int[MOST_PLACES];
        int places;
        int total;
        int seconds;
        int length;
        int pence;

        Speech(Dictionary dictionary, Sound sound, Laws laws) {
            this.dictionary = dictionary;
            this.sound = sound;
            this.laws = laws;
        }

        void forget() {
            heldGone = NONE;
        }

        void suppose(Text law, int supposed) {
            lost = supposed;
            int gone = Integer.bitCount(supposed);
            if (gone != heldGone) {
                Arrays.fill(heldExtra, NONE);
                heldGone = gone;
            }
            for (int word = 0; word < dictionary.words; word++) {
                can[word] = sound.canBe(word, supposed);
                if (!can[word]) {
                    continue;
                }
                int holes = sound.holesOf(word, supposed);
                int extra = sound.extraOf(word, supposed);
                int slot = word * HOLES + holes;
                if (heldExtra[slot] != extra) {
                    heldExtra[slot] = extra;
                    heldStiffness[slot] = laws.stiffness(law, word, holes, extra, gone);
                }
                stiffness[word] = heldStiffness[slot];
            }
        }

        /** FAR: it can't be said. The costs have then what each place and all behind it cost, by the word there. */
        int costOf(int sentence) {
            int last = dictionary.places[sentence] - 1;
            for (int place = last; place >= 0; place--) {
                fillCosts(sentence, place, place < last ? place + 1 : NONE);
            }
            int least = FAR;
            for (int word = 0; word < dictionary.words; word++) {
                least = Math.min(least, costs[0][word]);
            }
            return least;
        }

        int costUpTo(int sentence, int place, int word) {
            for (int at = 0; at <= place; at++) {
                fillCosts(sentence, at, at > 0 ? at - 1 : NONE);
            }
            return costs[place][word];
        }

        private void fillCosts(int sentence, int place, int beside) {
            int sense = dictionary.rows[sentence][place];
            if (beside != NONE) {
                seeCosts(beside);
            }
            for (int word = 0; word < dictionary.words; word++) {
                int cost = FAR;
                if (can[word] && dictionary.meanings[word] == sense) {
                    cost = stiffness[word] + (beside == NONE ? 0 : leastBeside(word, costs[beside][word]));
                }
                costs[place][word] = Math.min(FAR, cost);
            }
        }

        private void seeCosts(int place) {
            turned.start();
            others.start();
            for (int word = 0; word < dictionary.words; word++) {
                if (dictionary.kinds[word] == TURNED) {
                    turned.see(word, costs[place][word]);
                } else {
                    others.see(word, costs[place][word]);
                }
            }
        }

        private int leastBeside(int word, int same) {
            int other = dictionary.kinds[word] == TURNED
                    ? Math.min(others.least, turned.without(word) + COST_TURNED)
                    : Math.min(others.without(word), turned.least);
            return Math.min(other, same + COST_SAME);
        }

        private int costBetween(int ahead, int word) {
            if (ahead == NONE) {
                return 0;
            }
            if (ahead == word) {
                return COST_SAME;
            }
            return dictionary.kinds[ahead] == TURNED && dictionary.kinds[word] == TURNED ? COST_TURNED : 0;
        }

        boolean speak(int sentence) {
            int cost = costOf(sentence);
            if (cost >= FAR) {
                return false;
            }
            total = cost;
            places = dictionary.places[sentence];
            seconds = 0;
            length = 0;
            pence = 0;
            int ahead = NONE;
            for (int place = 0; place < places; place++) {
                int word = lowestBehind(ahead, place);
                if (word == NONE) {
                    return false;
                }
                chosen[place] = word;
                seconds += sound.secondsOf(word, lost);
                length += dictionary.lengths[word];
                pence += dictionary.kinds[word] == TURNED ? 3 : 2;
                ahead = word;
            }
            return true;
        }

        private int lowestBehind(int ahead, int place) {
            int lowest = NONE;
            int least = FAR;
            for (int word = 0; word < dictionary.words; word++) {
                int cost = costs[place][word] + costBetween(ahead, word);
                if (cost < least) {
                    least = cost;
                    lowest = word;
                }
            }
            return lowest;
        }

        /** Counts the keys that the spoken words take. */
        void press(int[] counts) {
            for (int place = 0; place < places; place++) {
                int word = chosen[place];
                for (int i = 0; i < dictionary.lengths[word]; i++) {
                    int key = sound.keyFor(word, i, lost);
                    if (key >= 0 && key < counts.length && counts[key] < LAST) {
                        counts[key]++;
                    }
                }
            }
        }
    }
}
