import java.util.Arrays;

/** What a word under the sea costs: a code book, cables, rules of conferences, messages and accounts. */
public final class Codewordcable {
    /** None. */
    public static final int NONE = -1;
    /** An idea that is UNCLEAR. */
    public static final int UNCLEAR = -2;
    /** Classes. */
    public static final int DEFERRED = 0, ORDINARY = 1, URGENT = 2;
    /** What messages are. */
    public static final int UNDERWAY = 0, DELIVERED = 1, STOPPED = 2;

    private static final int MOST_IDEAS = 30;
    private static final int MOST_ENTRIES = 40;
    private static final int MOST_OFFICES = 8;
    private static final int MOST_CABLES = 12;
    private static final int MOST_CONFERENCES = 12;
    private static final int MOST_DRAFTED = 24;
    private static final int MOST_MESSAGES = 60;

    private static final int LONGEST_IDEA = 20;
    private static final int LONGEST_PHRASE = 4;
    private static final int CODE_LETTERS = 5;
    private static final int ALPHABET = 26;
    private static final int LAST_CODE = 11881375;
    private static final int HIGHEST_KEY = 39;
    private static final int HIGHEST_RATE = 100;
    private static final int HIGHEST_SPEED = 20;
    private static final int MINUTES_A_DAY = 1440;
    private static final int LAST_DAY_TOLD = 1000;
    private static final int LAST_MINUTE = 1000000;

    /** More than any way or route can cost, and far enough below the largest int to add to it. */
    private static final int TOO_DEAR = 1000000000;

    private final Book book;
    private final Packer packer;
    private final Draft draft;
    private final Net net;
    private final Rules firstRules;
    private final Rules[] conferences;
    private final Message[] messages;
    private int conferenceCount;
    private int messageCount;
    private int minute;

    /** No ideas, no offices, the minute 0. */
    public Codewordcable() {
        book = new Book();
        packer = new Packer(book);
        draft = new Draft();
        net = new Net();
        firstRules = new Rules(0, 0, 15, 10, 0);
        conferences = new Rules[MOST_CONFERENCES];
        messages = new Message[MOST_MESSAGES];
        conferenceCount = 0;
        messageCount = 0;
        minute = 0;
    }

    // ---- the book

    /** Tells an idea. */
    public int idea(int letters) throws IllegalArgumentException, IllegalStateException {
        if (isOutside(letters, 1, LONGEST_IDEA)) {
            throw new IllegalArgumentException("letters is out of range");
        }
        int told = book.addIdea(letters);
        if (told == NONE) {
            throw new IllegalStateException("there are 30 ideas");
        }
        return told;
    }

    /** Puts an entry into the book. */
    public int entry(int word, int first, int second, int third, int fourth)
            throws IndexOutOfBoundsException, IllegalArgumentException, IllegalStateException {
        if (!book.hasIdea(first) || !book.hasIdeaOrNone(second)
                || !book.hasIdeaOrNone(third) || !book.hasIdeaOrNone(fourth)) {
            throw new IndexOutOfBoundsException("no such idea");
        }
        if (isOutside(word, 0, LAST_CODE)) {
            throw new IllegalArgumentException("word is out of range");
        }
        if (second == NONE && third != NONE || third == NONE && fourth != NONE) {
            throw new IllegalArgumentException("an idea stands behind NONE");
        }
        if (book.hasPhrase(first, second, third, fourth) || book.hasCodeNear(word)) {
            throw new IllegalStateException("the phrase is there, or a code word too near");
        }
        int put = book.addEntry(word, first, second, third, fourth);
        if (put == NONE) {
            throw new IllegalStateException("there are 40 entries");
        }
        return put;
    }

    /** Returns how many code words of the book a word may have been. */
    public int candidates(int word) throws IllegalArgumentException {
        if (isOutside(word, 0, LAST_CODE)) {
            throw new IllegalArgumentException("word is out of range");
        }
        book.search(word);
        return book.findCount;
    }

    /** Returns one of these: the entry at the place, lowest entry first. */
    public int candidate(int word, int place) throws IndexOutOfBoundsException, IllegalArgumentException {
        if (place < 0) {
            throw new IndexOutOfBoundsException("place is below 0");
        }
        if (isOutside(word, 0, LAST_CODE)) {
            throw new IllegalArgumentException("word is out of range");
        }
        book.search(word);
        return book.findAt(place);
    }

    // ---- offices, cables, rules

    /** Opens an office. */
    public int office() throws IllegalStateException {
        int opened = net.addOffice();
        if (opened == NONE) {
            throw new IllegalStateException("there are 8 offices");
        }
        return opened;
    }

    /** Lays a cable, of the first office's administration. */
    public int cable(int office, int other, int rate, int words)
            throws IndexOutOfBoundsException, IllegalArgumentException, IllegalStateException {
        if (net.officeAt(office) == null || net.officeAt(other) == null) {
            throw new IndexOutOfBoundsException("no such office");
        }
        if (office == other || isOutside(rate, 1, HIGHEST_RATE) || isOutside(words, 1, HIGHEST_SPEED)) {
            throw new IllegalArgumentException("both offices are one, or rate or words is out of range");
        }
        int laid = net.addCable(office, other, rate, words);
        if (laid == NONE) {
            throw new IllegalStateException("there are 12 cables");
        }
        return laid;
    }

    /** Breaks a cable, or mends it; returns how many messages are there. */
    public int broken(int cable, boolean broken) throws IndexOutOfBoundsException {
        Cable asked = net.cableAt(cable);
        if (asked == null) {
            throw new IndexOutOfBoundsException("no such cable");
        }
        asked.isBroken = broken;
        return countAtCable(cable);
    }

    /** Forbids code at an office, or allows it; returns whether it was forbidden. */
    public boolean forbid(int office, boolean is) throws IndexOutOfBoundsException {
        Office asked = net.officeAt(office);
        if (asked == null) {
            throw new IndexOutOfBoundsException("no such office");
        }
        boolean before = asked.forbidsCode;
        asked.forbidsCode = is;
        return before;
    }

    /** Sets the key of an office; returns the key before. */
    public int key(int office, int key) throws IndexOutOfBoundsException, IllegalArgumentException {
        Office asked = net.officeAt(office);
        if (asked == null) {
            throw new IndexOutOfBoundsException("no such office");
        }
        if (isOutside(key, 0, HIGHEST_KEY)) {
            throw new IllegalArgumentException("key is out of range");
        }
        int before = asked.key;
        asked.key = key;
        return before;
    }

    /** Tells the rules of a conference; returns its number, from 1 on. */
    public int conference(int day, int plain, int code, int vowels)
            throws IllegalArgumentException, IllegalStateException {
        if (isOutside(day, 0, LAST_DAY_TOLD) || isOutside(plain, 5, 20)
                || code != 5 && code != 10 && code != 15 || isOutside(vowels, 0, 3)) {
            throw new IllegalArgumentException("day, plain, code or vowels is out of range");
        }
        if (conferenceCount >= conferences.length) {
            throw new IllegalStateException("there are 12 conferences");
        }
        int number = conferenceCount + 1;
        conferences[conferenceCount] = new Rules(number, day, plain, code, vowels);
        conferenceCount = number;
        return number;
    }

    /** An office reserves the rules of a conference; returns the conference that counts there now. */
    public int reserve(int office, int conference) throws IndexOutOfBoundsException {
        Office asked = net.officeAt(office);
        if (asked == null || isOutside(conference, 1, conferenceCount)) {
            throw new IndexOutOfBoundsException("no such office or conference");
        }
        asked.reserveRules(conference);
        return rulesAt(asked).number;
    }

    // ---- messages

    /** Puts an idea at the end of the draft; returns how many it has then. */
    public int draft(int idea) throws IndexOutOfBoundsException, IllegalStateException {
        if (!book.hasIdea(idea)) {
            throw new IndexOutOfBoundsException("no such idea");
        }
        if (!draft.add(idea)) {
            throw new IllegalStateException("the draft has 24 ideas");
        }
        return draft.count;
    }

    /** Returns how many words would be paid for the draft. */
    public int words(int office, boolean packed) throws IndexOutOfBoundsException {
        Office asked = net.officeAt(office);
        if (asked == null) {
            throw new IndexOutOfBoundsException("no such office");
        }
        packer.fill(draft, asked.key, rulesAt(asked), packed);
        return packer.paid;
    }

    /** Sends the draft, which is empty then; returns the number of the message. */
    public int send(int from, int to, int kind, boolean packed)
            throws IndexOutOfBoundsException, IllegalArgumentException, IllegalStateException {
        Office first = net.officeAt(from);
        if (first == null || net.officeAt(to) == null) {
            throw new IndexOutOfBoundsException("no such office");
        }
        if (from == to || isOutside(kind, DEFERRED, URGENT)) {
            throw new IllegalArgumentException("both offices are one, or kind is out of range");
        }
        if (draft.count == 0 || messageCount >= messages.length || !net.findRoute(from, to)) {
            throw new IllegalStateException("the draft is empty, there is no route, or there are 60 messages");
        }
        packer.fill(draft, first.key, rulesAt(first), packed);
        Message message = new Message(from, to, kind, packer, net);
        messages[messageCount] = message;
        messageCount++;
        draft.count = 0;
        settle(message);
        comeTo(message, from);
        return messageCount - 1;
    }

    /** Lets a letter of a message go wrong; returns the code word then. */
    public int wrong(int message, int place, int letter, int to)
            throws IndexOutOfBoundsException, IllegalArgumentException, IllegalStateException {
        Message asked = messageAt(message);
        if (asked == null || !asked.hasWord(place)) {
            throw new IndexOutOfBoundsException("no such message, or word in it");
        }
        if (isOutside(letter, 0, CODE_LETTERS - 1) || isOutside(to, 0, ALPHABET - 1)) {
            throw new IllegalArgumentException("letter or to is out of range");
        }
        if (asked.state != UNDERWAY || !isCode(asked.wordNow(place))) {
            throw new IllegalStateException("the message is not UNDERWAY, or that is a plain word");
        }
        asked.change(place, withLetter(asked.wordNow(place), letter, to));
        return asked.wordNow(place);
    }

    /** Lets minutes go by; returns the minute. */
    public int pass(int minutes) throws IllegalArgumentException, IllegalStateException {
        if (isOutside(minutes, 1, 60)) {
            throw new IllegalArgumentException("minutes is out of range");
        }
        if (minute + minutes > LAST_MINUTE) {
            throw new IllegalStateException("the minute would be above 1000000");
        }
        for (int gone = 0; gone < minutes && isAnyUnderway(); gone++) {
            carryMinute();
        }
        minute += minutes;
        return minute;
    }

    /** Lets days go by, in which nothing is carried; returns the minute. */
    public int rest(int days) throws IllegalArgumentException, IllegalStateException {
        if (isOutside(days, 1, 100)) {
            throw new IllegalArgumentException("days is out of range");
        }
        if (minute + days * MINUTES_A_DAY > LAST_MINUTE) {
            throw new IllegalStateException("the minute would be above 1000000");
        }
        minute += days * MINUTES_A_DAY;
        return minute;
    }

    // ---- asking

    /** Returns a number of a message. */
    public int ofMessage(int message, int what) throws IndexOutOfBoundsException, IllegalArgumentException {
        Message asked = messageAt(message);
        if (asked == null) {
            throw new IndexOutOfBoundsException("no such message");
        }
        switch (what) {
            case 0:
                return asked.state;
            case 1:
                return asked.sent.length;
            case 2:
                return asked.paid;
            case 3:
                return asked.price;
            case 4:
                return asked.cableNow();
            case 5:
                return asked.state == STOPPED ? asked.at : NONE;
            default:
                throw new IllegalArgumentException("what is out of range");
        }
    }

    /** Returns a word of a message: the code word, or NONE less the idea of a plain one, less 1. */
    public int word(int message, int place, boolean sent) throws IndexOutOfBoundsException {
        Message asked = messageAt(message);
        if (asked == null || !asked.hasWord(place)) {
            throw new IndexOutOfBoundsException("no such message, or word in it");
        }
        return sent ? asked.wordSent(place) : asked.wordNow(place);
    }

    /** Returns an idea of a message, as its last office reads it now. */
    public int read(int message, int place) throws IndexOutOfBoundsException {
        Message asked = messageAt(message);
        if (asked == null || place < 0) {
            throw new IndexOutOfBoundsException("no such message, or place is below 0");
        }
        Office last = net.officeAt(asked.to);
        int key = last == null ? 0 : last.key;
        int before = 0;
        for (int i = 0; i < asked.now.length; i++) {
            int word = asked.now[i];
            int meant = isCode(word) ? book.shifted(book.onlyFind(word), -key) : NONE;
            int ideas = meant == NONE ? 1 : book.phraseLength(meant);
            if (place - before < ideas) {
                if (!isCode(word)) {
                    return ideaOfPlain(word);
                }
                return meant == NONE ? UNCLEAR : book.ideaIn(meant, place - before);
            }
            before += ideas;
        }
        return NONE;
    }

    /** Names what went wrong in a message: 5 times the place of the word, and its letter. */
    public int claim(int message) throws IndexOutOfBoundsException {
        Message asked = messageAt(message);
        if (asked == null) {
            throw new IndexOutOfBoundsException("no such message");
        }
        for (int place = 0; place < asked.sent.length; place++) {
            int sent = asked.wordSent(place);
            int now = asked.wordNow(place);
            if (sent != now) {
                return place * CODE_LETTERS + firstPart(sent, now);
            }
        }
        return NONE;
    }

    /** Returns the account of an office: what it got less what it owes. */
    public int account(int office) throws IndexOutOfBoundsException {
        Office asked = net.officeAt(office);
        if (asked == null) {
            throw new IndexOutOfBoundsException("no such office");
        }
        return asked.balance;
    }

    /** Returns the same, found again from all messages, cable by cable. */
    public int accountAnew(int office) throws IndexOutOfBoundsException {
        if (net.officeAt(office) == null) {
            throw new IndexOutOfBoundsException("no such office");
        }
        int sum = 0;
        for (int i = 0; i < messageCount; i++) {
            Message message = messageAt(i);
            if (message != null) {
                sum += shareIn(message, office);
            }
        }
        return sum;
    }

    // ---- the parts of a call

    private Message messageAt(int message) {
        return isOutside(message, 0, messageCount - 1) || message >= messages.length ? null : messages[message];
    }

    private int countAtCable(int cable) {
        int count = 0;
        for (int i = 0; i < messageCount; i++) {
            Message message = messageAt(i);
            if (message != null && message.cableNow() == cable) {
                count++;
            }
        }
        return count;
    }

    /** The latest conference told whose day has come counts, but for those that the office reserves. */
    private Rules rulesAt(Office office) {
        int today = minute / MINUTES_A_DAY;
        for (int i = Math.min(conferenceCount, conferences.length) - 1; i >= 0; i--) {
            Rules told = conferences[i];
            if (told != null && told.day <= today && !office.reserves(told.number)) {
                return told;
            }
        }
        return firstRules;
    }

    /** The whole price is owed as the message is sent, and each cable's administration gets its part. */
    private void settle(Message message) {
        Office payer = net.officeAt(message.from);
        if (payer != null) {
            payer.balance -= message.price;
        }
        for (int i = 0; i < message.route.length; i++) {
            Cable cable = net.cableAt(message.route[i]);
            Office getter = cable == null ? null : net.officeAt(cable.administration);
            if (getter != null) {
                getter.balance += message.priceAt(cable.rate);
            }
        }
    }

    /** What an office got from a message less what it owes for it, from the parts of the cables. */
    private int shareIn(Message message, int office) {
        int sum = 0;
        for (int i = 0; i < message.route.length; i++) {
            Cable cable = net.cableAt(message.route[i]);
            int part = cable == null ? 0 : message.priceAt(cable.rate);
            if (message.from == office) {
                sum -= part;
            }
            if (cable != null && cable.administration == office) {
                sum += part;
            }
        }
        return sum;
    }

    private boolean isAnyUnderway() {
        for (int i = 0; i < messageCount; i++) {
            Message message = messageAt(i);
            if (message != null && message.state == UNDERWAY) {
                return true;
            }
        }
        return false;
    }

    /** Messages move on only when all cables have carried: a cable carries what was there as the minute began. */
    private void carryMinute() {
        net.startMinute();
        for (int kind = URGENT; kind >= DEFERRED; kind--) {
            for (int i = 0; i < messageCount; i++) {
                Message message = messageAt(i);
                if (message != null && message.kind == kind) {
                    carry(message, net.cableAt(message.cableNow()));
                }
            }
        }
        for (int i = 0; i < messageCount; i++) {
            Message message = messageAt(i);
            if (message != null) {
                moveOn(message, net.cableAt(message.cableNow()));
            }
        }
    }

    private static void carry(Message message, Cable cable) {
        if (cable == null) {
            return;
        }
        int carried = Math.min(message.left, cable.room);
        message.left -= carried;
        cable.room -= carried;
    }

    private void moveOn(Message message, Cable cable) {
        if (cable == null || message.left > 0) {
            return;
        }
        message.leg++;
        comeTo(message, cable.otherEnd(message.at));
    }

    private void comeTo(Message message, int office) {
        Office there = net.officeAt(office);
        message.at = office;
        message.left = message.paid;
        if (message.hasCode && there != null && there.forbidsCode) {
            message.state = STOPPED;
        } else if (message.leg >= message.route.length) {
            message.state = DELIVERED;
        }
    }

    // ---- numbers and letters

    private static boolean isOutside(int number, int lowest, int highest) {
        return number < lowest || number > highest;
    }

    private static int roundedUp(int number, int by) {
        return by <= 0 ? 0 : (number + by - 1) / by;
    }

    private static boolean isCode(int word) {
        return word >= 0;
    }

    private static int plainOf(int idea) {
        return NONE - idea - 1;
    }

    private static int ideaOfPlain(int word) {
        return NONE - word - 1;
    }

    /** What a letter counts in a code word: the first one most. */
    private static int weightOf(int letter) {
        int weight = 1;
        for (int i = letter; i < CODE_LETTERS - 1; i++) {
            weight *= ALPHABET;
        }
        return weight;
    }

    private static int letterOf(int word, int letter) {
        int weight = weightOf(letter);
        return weight <= 0 ? 0 : word / weight % ALPHABET;
    }

    private static int withLetter(int word, int letter, int to) {
        return word + (to - letterOf(word, letter)) * weightOf(letter);
    }

    private static int vowelsIn(int word) {
        int vowels = 0;
        for (int i = 0; i < CODE_LETTERS; i++) {
            int letter = letterOf(word, i);
            if (letter == 0 || letter == 4 || letter == 8 || letter == 14 || letter == 20) {
                vowels++;
            }
        }
        return vowels;
    }

    private static int partsOf(int word, int other) {
        int parts = 0;
        for (int i = 0; i < CODE_LETTERS; i++) {
            if (letterOf(word, i) != letterOf(other, i)) {
                parts++;
            }
        }
        return parts;
    }

    /** The first letter in which two words part, CODE_LETTERS without. */
    private static int firstPart(int word, int other) {
        int letter = 0;
        while (letter < CODE_LETTERS && letterOf(word, letter) == letterOf(other, letter)) {
            letter++;
        }
        return letter;
    }

    private static boolean isTurned(int word, int other) {
        int first = firstPart(word, other);
        return first < CODE_LETTERS - 1 && partsOf(word, other) == 2
                && letterOf(word, first) == letterOf(other, first + 1)
                && letterOf(word, first + 1) == letterOf(other, first);
    }

    // ---- what is held

    /** The ideas, the entries, and what the last search found. */
    private static final class Book {
        private final int[] letters;
        private final int[] codes;
        private final int[] phrases;
        private final int[] finds;
        private int ideaCount;
        private int entryCount;
        private int findCount;

        Book() {
            letters = new int[MOST_IDEAS];
            codes = new int[MOST_ENTRIES];
            phrases = new int[MOST_ENTRIES * LONGEST_PHRASE];
            finds = new int[MOST_ENTRIES];
            ideaCount = 0;
            entryCount = 0;
            findCount = 0;
        }

        int addIdea(int many) {
            if (ideaCount >= letters.length) {
                return NONE;
            }
            letters[ideaCount] = many;
            ideaCount++;
            return ideaCount - 1;
        }

        boolean hasIdea(int idea) {
            return !isOutside(idea, 0, ideaCount - 1);
        }

        boolean hasIdeaOrNone(int idea) {
            return idea == NONE || hasIdea(idea);
        }

        int lettersOf(int idea) {
            return hasIdea(idea) && idea < letters.length ? letters[idea] : 0;
        }

        boolean hasEntry(int entry) {
            return entry >= 0 && entry < entryCount && entry < codes.length;
        }

        int codeOf(int entry) {
            return hasEntry(entry) ? codes[entry] : NONE;
        }

        int ideaIn(int entry, int place) {
            int index = entry * LONGEST_PHRASE + place;
            boolean there = hasEntry(entry) && !isOutside(place, 0, LONGEST_PHRASE - 1) && index < phrases.length;
            return there ? phrases[index] : NONE;
        }

        int phraseLength(int entry) {
            int length = 0;
            while (length < LONGEST_PHRASE && ideaIn(entry, length) != NONE) {
                length++;
            }
            return length;
        }

        boolean hasPhrase(int first, int second, int third, int fourth) {
            for (int i = 0; i < entryCount; i++) {
                if (ideaIn(i, 0) == first && ideaIn(i, 1) == second
                        && ideaIn(i, 2) == third && ideaIn(i, 3) == fourth) {
                    return true;
                }
            }
            return false;
        }

        boolean hasCodeNear(int word) {
            for (int i = 0; i < entryCount; i++) {
                if (partsOf(word, codeOf(i)) < 2) {
                    return true;
                }
            }
            return false;
        }

        int addEntry(int word, int first, int second, int third, int fourth) {
            int start = entryCount * LONGEST_PHRASE;
            if (entryCount >= codes.length || start + 3 >= phrases.length) {
                return NONE;
            }
            codes[entryCount] = word;
            phrases[start] = first;
            phrases[start + 1] = second;
            phrases[start + 2] = third;
            phrases[start + 3] = fourth;
            entryCount++;
            return entryCount - 1;
        }

        /** The entry whose phrase is so many ideas of the draft from the start on. */
        int entryFor(Draft draft, int start, int length) {
            for (int i = 0; i < entryCount; i++) {
                if (standsAt(i, draft, start, length)) {
                    return i;
                }
            }
            return NONE;
        }

        private boolean standsAt(int entry, Draft draft, int start, int length) {
            for (int i = 0; i < length; i++) {
                if (ideaIn(entry, i) != draft.ideaAt(start + i)) {
                    return false;
                }
            }
            return ideaIn(entry, length) == NONE;
        }

        /** The entry that is so many numbers on, round the book. */
        int shifted(int entry, int by) {
            return entryCount <= 0 || entry == NONE ? NONE : Math.floorMod(entry + by, entryCount);
        }

        /** Finds all entries whose code words the word may have been. */
        void search(int word) {
            findCount = 0;
            for (int i = 0; i < entryCount; i++) {
                if (codeOf(i) == word) {
                    addFind(i);
                }
            }
            if (findCount > 0) {
                return;
            }
            for (int i = 0; i < entryCount; i++) {
                if (partsOf(word, codeOf(i)) == 1 || isTurned(word, codeOf(i))) {
                    addFind(i);
                }
            }
        }

        private void addFind(int entry) {
            if (findCount < finds.length) {
                finds[findCount] = entry;
                findCount++;
            }
        }

        int findAt(int place) {
            return isOutside(place, 0, findCount - 1) || place >= finds.length ? NONE : finds[place];
        }

        /** The entry whose code word the word may have been, if it is one alone. */
        int onlyFind(int word) {
            search(word);
            return findCount == 1 ? findAt(0) : NONE;
        }
    }

    /** The ideas that are put together for the next message. */
    private static final class Draft {
        private final int[] ideas;
        private int count;

        Draft() {
            ideas = new int[MOST_DRAFTED];
            count = 0;
        }

        boolean add(int idea) {
            if (count >= ideas.length) {
                return false;
            }
            ideas[count] = idea;
            count++;
            return true;
        }

        int ideaAt(int place) {
            return isOutside(place, 0, count - 1) || place >= ideas.length ? NONE : ideas[place];
        }
    }

    /** Cuts a draft into words. Its rows are used again for each draft. */
    private static final class Packer {
        private static final int WIDTH = MOST_DRAFTED + 1;

        private final Book book;
        /** By place and length of a phrase: the code word that would be sent, NONE if it can't be. */
        private final int[] codes;
        /** By place and count of code words: the least that the plain words from there on can cost. */
        private final int[] least;
        private final int[] words;
        private int wordCount;
        private int codeCount;
        private int paid;

        Packer(Book told) {
            book = told;
            codes = new int[MOST_DRAFTED * LONGEST_PHRASE];
            least = new int[WIDTH * WIDTH];
            words = new int[MOST_DRAFTED];
            wordCount = 0;
            codeCount = 0;
            paid = 0;
        }

        /** The words of the draft that was cut last, in a new row. */
        int[] wordRow() {
            return Arrays.copyOf(words, Math.max(0, Math.min(wordCount, words.length)));
        }

        /** Cuts the draft as an office with that key and those rules sends it. */
        void fill(Draft draft, int key, Rules rules, boolean packed) {
            codeCount = 0;
            paid = plainCost(draft, rules);
            if (packed) {
                findCodes(draft, key, rules);
                findLeast(draft, rules);
                chooseCount(draft, rules);
            }
            cut(draft, rules);
        }

        private int plainCost(Draft draft, Rules rules) {
            int cost = 0;
            for (int i = 0; i < draft.count; i++) {
                cost += roundedUp(book.lettersOf(draft.ideaAt(i)), rules.plain);
            }
            return cost;
        }

        private void findCodes(Draft draft, int key, Rules rules) {
            Arrays.fill(codes, NONE);
            for (int place = 0; place < draft.count; place++) {
                for (int length = 1; length <= LONGEST_PHRASE && place + length <= draft.count; length++) {
                    int sent = book.codeOf(book.shifted(book.entryFor(draft, place, length), key));
                    int index = place * LONGEST_PHRASE + length - 1;
                    if (sent != NONE && vowelsIn(sent) >= rules.vowels && index < codes.length) {
                        codes[index] = sent;
                    }
                }
            }
        }

        private int codeFor(int place, int length) {
            int index = place * LONGEST_PHRASE + length - 1;
            return isOutside(index, 0, codes.length - 1) ? NONE : codes[index];
        }

        private void findLeast(Draft draft, Rules rules) {
            Arrays.fill(least, TOO_DEAR);
            setLeast(draft.count, 0, 0);
            for (int place = draft.count - 1; place >= 0; place--) {
                int plain = roundedUp(book.lettersOf(draft.ideaAt(place)), rules.code);
                for (int count = 0; count <= draft.count - place; count++) {
                    int cost = leastFrom(place + 1, count) + plain;
                    for (int length = 1; length <= LONGEST_PHRASE; length++) {
                        if (codeFor(place, length) != NONE) {
                            cost = Math.min(cost, leastFrom(place + length, count - 1));
                        }
                    }
                    setLeast(place, count, Math.min(cost, TOO_DEAR));
                }
            }
        }

        private int leastFrom(int place, int count) {
            boolean there = !isOutside(place, 0, WIDTH - 1) && !isOutside(count, 0, WIDTH - 1);
            int index = place * WIDTH + count;
            return there && index < least.length ? least[index] : TOO_DEAR;
        }

        private void setLeast(int place, int count, int cost) {
            int index = place * WIDTH + count;
            if (!isOutside(index, 0, least.length - 1)) {
                least[index] = cost;
            }
        }

        /** Only a way that costs less takes more code words. */
        private void chooseCount(Draft draft, Rules rules) {
            for (int count = 1; count <= draft.count; count++) {
                int cost = leastFrom(0, count) + roundedUp(count * CODE_LETTERS, rules.code);
                if (cost < paid) {
                    paid = cost;
                    codeCount = count;
                }
            }
        }

        private void cut(Draft draft, Rules rules) {
            wordCount = 0;
            int left = codeCount;
            int place = 0;
            while (place < draft.count) {
                int length = left > 0 ? longestCode(place, left) : 0;
                if (length > 0) {
                    addWord(codeFor(place, length));
                    place += length;
                    left--;
                } else {
                    addWord(plainOf(draft.ideaAt(place)));
                    place++;
                }
            }
        }

        /** The length of the longest phrase that may be taken here without more to be paid, 0 without. */
        private int longestCode(int place, int left) {
            for (int length = LONGEST_PHRASE; length > 0; length--) {
                if (codeFor(place, length) != NONE
                        && leastFrom(place + length, left - 1) == leastFrom(place, left)) {
                    return length;
                }
            }
            return 0;
        }

        private void addWord(int word) {
            if (wordCount < words.length) {
                words[wordCount] = word;
                wordCount++;
            }
        }
    }

    /** An office: its key, its ban on code, its reserves and its account. */
    private static final class Office {
        private final boolean[] reserved;
        private int key;
        private boolean forbidsCode;
        private int balance;

        Office() {
            reserved = new boolean[MOST_CONFERENCES + 1];
            key = 0;
            forbidsCode = false;
            balance = 0;
        }

        void reserveRules(int conference) {
            if (!isOutside(conference, 0, reserved.length - 1)) {
                reserved[conference] = true;
            }
        }

        boolean reserves(int conference) {
            return !isOutside(conference, 0, reserved.length - 1) && reserved[conference];
        }
    }

    /** A cable between two offices, and the room that it has left in this minute. */
    private static final class Cable {
        private final int administration;
        private final int other;
        private final int rate;
        private final int speed;
        private boolean isBroken;
        private int room;

        Cable(int office, int end, int price, int words) {
            administration = office;
            other = end;
            rate = price;
            speed = words;
            isBroken = false;
            room = 0;
        }

        boolean touches(int office) {
            return office == administration || office == other;
        }

        int otherEnd(int office) {
            return office == administration ? other : administration;
        }
    }

    /** The rules of a conference, or those at first, whose number is 0. */
    private static final class Rules {
        private final int number;
        private final int day;
        private final int plain;
        private final int code;
        private final int vowels;

        Rules(int conference, int from, int plainLetters, int codeLetters, int vowelsWanted) {
            number = conference;
            day = from;
            plain = plainLetters;
            code = codeLetters;
            vowels = vowelsWanted;
        }
    }

    /** The offices and cables, and the route that was found last. */
    private static final class Net {
        /** Above the most cables of a route, so that a rate counts more than all of them. */
        private static final int RATE_WEIGHT = 16;

        private final Office[] offices;
        private final Cable[] cables;
        private final int[] costs;
        private final int[] route;
        private int officeCount;
        private int cableCount;
        private int routeLength;

        Net() {
            offices = new Office[MOST_OFFICES];
            cables = new Cable[MOST_CABLES];
            costs = new int[MOST_OFFICES];
            route = new int[MOST_OFFICES];
            officeCount = 0;
            cableCount = 0;
            routeLength = 0;
        }

        int addOffice() {
            if (officeCount >= offices.length) {
                return NONE;
            }
            offices[officeCount] = new Office();
            officeCount++;
            return officeCount - 1;
        }

        Office officeAt(int office) {
            return isOutside(office, 0, officeCount - 1) || office >= offices.length ? null : offices[office];
        }

        int addCable(int office, int other, int rate, int speed) {
            if (cableCount >= cables.length) {
                return NONE;
            }
            cables[cableCount] = new Cable(office, other, rate, speed);
            cableCount++;
            return cableCount - 1;
        }

        Cable cableAt(int cable) {
            return isOutside(cable, 0, cableCount - 1) || cable >= cables.length ? null : cables[cable];
        }

        void startMinute() {
            for (int i = 0; i < cableCount; i++) {
                Cable cable = cableAt(i);
                if (cable != null) {
                    cable.room = cable.isBroken ? 0 : cable.speed;
                }
            }
        }

        /** Finds the route of a message sent now; returns whether there is one. */
        boolean findRoute(int from, int to) {
            findCosts(to);
            routeLength = 0;
            int at = from;
            while (at != to && routeLength < route.length) {
                int next = nextCable(at);
                Cable cable = cableAt(next);
                if (cable == null) {
                    return false;
                }
                route[routeLength] = next;
                routeLength++;
                at = cable.otherEnd(at);
            }
            return at == to;
        }

        /** A cable's cost holds its rate and that it is one cable more: the rates count first. */
        private static int costOf(Cable cable) {
            return cable.rate * RATE_WEIGHT + 1;
        }

        private void findCosts(int to) {
            Arrays.fill(costs, TOO_DEAR);
            setCost(to, 0);
            for (int round = 1; round < officeCount; round++) {
                for (int i = 0; i < cableCount; i++) {
                    Cable cable = cableAt(i);
                    if (cable != null && !cable.isBroken) {
                        lowerCost(cable.administration, cable);
                        lowerCost(cable.other, cable);
                    }
                }
            }
        }

        private void lowerCost(int office, Cable cable) {
            int cost = costFrom(cable.otherEnd(office)) + costOf(cable);
            if (cost < costFrom(office)) {
                setCost(office, cost);
            }
        }

        private int costFrom(int office) {
            return isOutside(office, 0, costs.length - 1) ? TOO_DEAR : costs[office];
        }

        private void setCost(int office, int cost) {
            if (!isOutside(office, 0, costs.length - 1)) {
                costs[office] = cost;
            }
        }

        /** The lowest cable from an office by which the rest costs the least, NONE without. */
        private int nextCable(int office) {
            int cost = costFrom(office);
            for (int i = 0; i < cableCount && cost < TOO_DEAR; i++) {
                Cable cable = cableAt(i);
                if (cable != null && !cable.isBroken && cable.touches(office)
                        && costFrom(cable.otherEnd(office)) + costOf(cable) == cost) {
                    return i;
                }
            }
            return NONE;
        }

        /** The cables of the route that was found last, in a new row. */
        int[] routeRow() {
            return Arrays.copyOf(route, Math.max(0, Math.min(routeLength, route.length)));
        }

        int routeRate() {
            int sum = 0;
            for (int i = 0; i < routeLength && i < route.length; i++) {
                Cable cable = cableAt(route[i]);
                sum += cable == null ? 0 : cable.rate;
            }
            return sum;
        }
    }

    /** A message: what was sent, what it is now, and where. */
    private static final class Message {
        private final int from;
        private final int to;
        private final int kind;
        private final int paid;
        private final int price;
        private final boolean hasCode;
        private final int[] sent;
        private final int[] now;
        private final int[] route;
        private int state;
        private int at;
        private int leg;
        private int left;

        Message(int first, int last, int ofKind, Packer packer, Net net) {
            from = first;
            to = last;
            kind = ofKind;
            paid = packer.paid;
            hasCode = packer.codeCount > 0;
            sent = packer.wordRow();
            now = packer.wordRow();
            route = net.routeRow();
            price = priceAt(net.routeRate());
            state = UNDERWAY;
            at = first;
            leg = 0;
            left = 0;
        }

        private int priceAt(int rate) {
            int times = kind == URGENT ? 4 : kind == ORDINARY ? 2 : 1;
            return rate * paid * times;
        }

        boolean hasWord(int place) {
            return !isOutside(place, 0, sent.length - 1) && place < now.length;
        }

        int wordSent(int place) {
            return hasWord(place) ? sent[place] : NONE;
        }

        int wordNow(int place) {
            return hasWord(place) ? now[place] : NONE;
        }

        void change(int place, int word) {
            if (hasWord(place)) {
                now[place] = word;
            }
        }

        int cableNow() {
            return state != UNDERWAY || isOutside(leg, 0, route.length - 1) ? NONE : route[leg];
        }
    }
}
