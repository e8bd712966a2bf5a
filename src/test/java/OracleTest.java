import java.util.ArrayList;
import java.util.Arrays;
import java.util.List;

/** Long runs of calls, made by a fixed formula, answered by the class and by Oracle.Model, which tries all ways. */
public final class OracleTest {
    private static final int RUNS = 2000;
    private static final int CALLS = 512;
    /** Of longer drafts there are too many ways to try them all often. */
    private static final int LONG = 11;
    private static final int SEND = 13;
    private static final int CABLE = 5;
    private static final Check check = new Check();
    private static long seed = 20261119;

    public static void main(String[] args) {
        for (int run = 0; run < RUNS; run++) {
            if (!agrees(run)) {
                break;
            }
        }
        check.end();
    }

    private static int upTo(int bound) {
        seed = seed * 6364136223846793005L + 1442695040888963407L;
        return (int) Math.floorMod(seed >> 33, (long) bound);
    }

    private static boolean agrees(int run) {
        Codewordcable x = new Codewordcable();
        Model model = new Model();
        List<String> told = new ArrayList<>();
        int crowd = upTo(4);
        for (int i = 0; i < CALLS; i++) {
            int[] call = nextCall(model, i, crowd);
            String got = Check.outcome(x, y -> onClass(y, call));
            String want = model.outcome(call);
            told.add(NAMES[call[0]] + Arrays.toString(Arrays.copyOfRange(call, 1, call.length)) + " " + got);
            if (!got.equals(want)) {
                System.out.println("run " + run + " " + told + ", due is " + want);
                check.due("run " + run, false, true);
                return false;
            }
        }
        check.due("run " + run, true, true);
        return true;
    }

    static final String[] NAMES = {"idea", "entry", "candidates", "candidate", "office", "cable", "broken", "forbid",
        "key", "conference", "reserve", "draft", "words", "send", "wrong", "pass", "rest", "ofMessage", "word", "read",
        "claim", "account", "accountAnew"};
    private static final int[] OFTEN = {1, 2, 2, 2, 1, 2, 3, 2, 3, 1, 1, 16, 4, 7, 6, 3, 1, 8, 4, 8, 2, 2, 2};

    private static int[] nextCall(Model model, int step, int crowd) {
        int which = step < 25 + crowd * 10 ? pick(0, 0, 1, 1, 1, 1, 4, 4, 5, 5, 5, 8, 9) : often();
        if (NAMES[which].equals("draft") && model.drafted.size() >= LONG && upTo(50) > 0) {
            which = SEND;
        } else if (NAMES[which].equals("office") && model.offices >= 2 + crowd * 2 && upTo(9) > 0) {
            which = CABLE;
        }
        boolean astray = upTo(40) == 0;
        int[] call = arguments(which, model, crowd);
        if (astray && call.length > 1) {
            int[] odd = {-1, -2, 0, 40, 61, 101, 1001, 11881376, Integer.MAX_VALUE, Integer.MIN_VALUE};
            call[1 + upTo(call.length - 1)] = odd[upTo(odd.length)];
        }
        return call;
    }

    private static int often() {
        int sum = 0;
        for (int weight : OFTEN) {
            sum += weight;
        }
        int left = upTo(sum);
        int which = 0;
        while (left >= OFTEN[which]) {
            left -= OFTEN[which];
            which++;
        }
        return which;
    }

    private static int pick(int... all) {
        return all[upTo(all.length)];
    }

    /** A few letters alone, so that words are near one another. */
    private static int word(Model model, int letters) {
        if (upTo(3) > 0 && !model.entries.isEmpty()) {
            int word = model.entries.get(upTo(model.entries.size()))[0];
            return upTo(3) == 0 ? word : Model.withLetter(word, upTo(5), upTo(letters) * 4);
        }
        int word = 0;
        for (int i = 0; i < 5; i++) {
            word = word * 26 + upTo(letters) * 4;
        }
        return word;
    }

    private static int[] arguments(int which, Model m, int crowd) {
        int idea = upTo(Math.max(1, upTo(8) == 0 ? m.ideas.size() : Math.min(4, m.ideas.size())));
        int office = upTo(Math.max(1, m.offices));
        int other = upTo(Math.max(1, m.offices));
        int letters = 2 + crowd;
        int message = Math.max(0, m.messages.size() - 1 - upTo(6));
        int place = message < m.messages.size() ? m.messages.get(message).somePlace(upTo(12)) : 0;
        switch (NAMES[which]) {
            case "idea": return new int[] {which, pick(1, 5, 6, 10, 11, 15, 16, 20, 1 + upTo(20))};
            case "entry": return phrase(which, m, letters);
            case "candidates": return new int[] {which, word(m, letters)};
            case "candidate": return new int[] {which, word(m, letters), upTo(3)};
            case "office": return new int[] {which};
            case "cable": return new int[] {which, office, other, 1 + upTo(crowd == 0 ? 100 : 4), 1 + upTo(4)};
            case "broken": return new int[] {which, upTo(Math.max(1, m.cables.size())), upTo(3) == 0 ? 1 : 0};
            case "forbid": return new int[] {which, office, upTo(5) == 0 ? 1 : 0};
            case "key": return new int[] {which, office, upTo(3) == 0 ? 0 : upTo(40)};
            case "conference": return new int[] {which, upTo(6), 5 + upTo(16), pick(5, 10, 15), upTo(4)};
            case "reserve": return new int[] {which, office, 1 + upTo(Math.max(1, m.conferences.size()))};
            case "draft": return new int[] {which, idea};
            case "words": return new int[] {which, office, upTo(4) == 0 ? 0 : 1};
            case "send": return new int[] {which, office, other, upTo(3), upTo(4) == 0 ? 0 : 1};
            case "wrong": return new int[] {which, message, place, upTo(5), upTo(letters) * 4};
            case "pass": return new int[] {which, 1 + upTo(4)};
            case "rest": return new int[] {which, 1 + upTo(upTo(9) == 0 ? 100 : 1)};
            case "ofMessage": return new int[] {which, message, upTo(6)};
            case "word": return new int[] {which, message, place, upTo(2)};
            case "read": return new int[] {which, message, upTo(8)};
            case "claim": return new int[] {which, message};
            default: return new int[] {which, office};
        }
    }

    private static int[] phrase(int which, Model m, int letters) {
        int[] call = {which, word(m, letters), 0, -1, -1, -1};
        int length = 1 + upTo(4);
        for (int i = 0; i < length; i++) {
            call[2 + i] = upTo(Math.max(1, Math.min(4, m.ideas.size())));
        }
        return call;
    }

    private static long onClass(Codewordcable y, int[] c) {
        switch (NAMES[c[0]]) {
            case "idea": return y.idea(c[1]);
            case "entry": return y.entry(c[1], c[2], c[3], c[4], c[5]);
            case "candidates": return y.candidates(c[1]);
            case "candidate": return y.candidate(c[1], c[2]);
            case "office": return y.office();
            case "cable": return y.cable(c[1], c[2], c[3], c[4]);
            case "broken": return y.broken(c[1], c[2] == 1);
            case "forbid": return y.forbid(c[1], c[2] == 1) ? 1 : 0;
            case "key": return y.key(c[1], c[2]);
            case "conference": return y.conference(c[1], c[2], c[3], c[4]);
            case "reserve": return y.reserve(c[1], c[2]);
            case "draft": return y.draft(c[1]);
            case "words": return y.words(c[1], c[2] == 1);
            case "send": return y.send(c[1], c[2], c[3], c[4] == 1);
            case "wrong": return y.wrong(c[1], c[2], c[3], c[4]);
            case "pass": return y.pass(c[1]);
            case "rest": return y.rest(c[1]);
            case "ofMessage": return y.ofMessage(c[1], c[2]);
            case "word": return y.word(c[1], c[2], c[3] == 1);
            case "read": return y.read(c[1], c[2]);
            case "claim": return y.claim(c[1]);
            case "account": return y.account(c[1]);
            default: return y.accountAnew(c[1]);
        }
    }

    /** The document's words once more, by the plainest means: lists, texts, and all ways tried. */
    private static final class Model {
        private static final String X = "IndexOutOfBoundsException";
        private static final String A = "IllegalArgumentException";
        private static final String S = "IllegalStateException";

        final List<Integer> ideas = new ArrayList<>();
        final List<int[]> entries = new ArrayList<>();
        final List<int[]> cables = new ArrayList<>();
        final List<Boolean> brokenOnes = new ArrayList<>();
        final List<int[]> conferences = new ArrayList<>();
        final List<Sent> messages = new ArrayList<>();
        final List<Integer> drafted = new ArrayList<>();
        final int[] keys = new int[8];
        final boolean[] forbidden = new boolean[8];
        final boolean[][] reserved = new boolean[8][13];
        int offices = 0;
        int minute = 0;
        private Way best;

        private static final class Way {
            final List<Integer> words = new ArrayList<>();
            final List<Integer> lengths = new ArrayList<>();
            int codes = 0;
            int paid = 0;
        }

        private static final class Sent {
            int from;
            int to;
            int kind;
            int paid;
            int price;
            int codes;
            List<Integer> sent;
            List<Integer> now;
            List<Integer> route;
            int state = 0;
            int leg = 0;
            int office;
            int carried = 0;

            /** A code word from the wish on, where there is one. */
            int somePlace(int wish) {
                for (int i = 0; i < sent.size(); i++) {
                    if (sent.get((i + wish) % sent.size()) >= 0) {
                        return (i + wish) % sent.size();
                    }
                }
                return wish % (sent.size() + 1);
            }
        }

        String outcome(int[] c) {
            String refusal = refusal(c);
            return refusal == null ? Long.toString(answer(c)) : refusal;
        }

        private boolean out(int number, int size) {
            return number < 0 || number >= size;
        }

        private boolean word(int word) {
            return word >= 0 && word < 26 * 26 * 26 * 26 * 26;
        }

        private String first(boolean index, boolean argument, boolean state) {
            return index ? X : argument ? A : state ? S : null;
        }

        private String refusal(int[] c) {
            switch (NAMES[c[0]]) {
                case "idea": return first(false, c[1] < 1 || c[1] > 20, ideas.size() == 30);
                case "entry": return entryRefusal(c);
                case "candidates": return first(false, !word(c[1]), false);
                case "candidate": return first(c[2] < 0, !word(c[1]), false);
                case "office": return first(false, false, offices == 8);
                case "cable": return first(out(c[1], offices) || out(c[2], offices),
                        c[1] == c[2] || c[3] < 1 || c[3] > 100 || c[4] < 1 || c[4] > 20, cables.size() == 12);
                case "broken": return first(out(c[1], cables.size()), false, false);
                case "key": return first(out(c[1], offices), out(c[2], 40), false);
                case "conference": return first(false, out(c[1], 1001) || c[2] < 5 || c[2] > 20
                        || c[3] != 5 && c[3] != 10 && c[3] != 15 || out(c[4], 4), conferences.size() == 12);
                case "reserve": return first(out(c[1], offices) || out(c[2] - 1, conferences.size()), false, false);
                case "draft": return first(out(c[1], ideas.size()), false, drafted.size() == 24);
                case "send": return sendRefusal(c);
                case "wrong": return wrongRefusal(c);
                case "pass": return first(false, c[1] < 1 || c[1] > 60, minute > 1000000 - c[1]);
                case "rest": return first(false, c[1] < 1 || c[1] > 100, minute > 1000000 - c[1] * 1440);
                case "ofMessage": return first(out(c[1], messages.size()), out(c[2], 6), false);
                case "word": return first(out(c[1], messages.size())
                        || out(c[2], messages.get(c[1]).sent.size()), false, false);
                case "read": return first(out(c[1], messages.size()) || c[2] < 0, false, false);
                case "claim": return first(out(c[1], messages.size()), false, false);
                default: return first(out(c[1], offices), false, false);
            }
        }

        private String entryRefusal(int[] c) {
            boolean index = out(c[2], ideas.size());
            for (int i = 3; i < 6; i++) {
                index |= c[i] != -1 && out(c[i], ideas.size());
            }
            boolean argument = !word(c[1]) || c[3] == -1 && c[4] != -1 || c[4] == -1 && c[5] != -1;
            boolean state = entries.size() == 40;
            for (int[] entry : entries) {
                state |= Arrays.equals(Arrays.copyOfRange(entry, 1, 5), Arrays.copyOfRange(c, 2, 6));
                state |= word(c[1]) && parts(text(entry[0]), text(c[1])) < 2;
            }
            return first(index, argument, state);
        }

        private String sendRefusal(int[] c) {
            boolean index = out(c[1], offices) || out(c[2], offices);
            boolean argument = c[1] == c[2] || out(c[3], 3);
            boolean state = drafted.isEmpty() || messages.size() == 60;
            return first(index, argument, !index && !argument && (state || route(c[1], c[2]) == null));
        }

        private String wrongRefusal(int[] c) {
            boolean index = out(c[1], messages.size()) || out(c[2], messages.get(c[1]).sent.size());
            return first(index, out(c[3], 5) || out(c[4], 26),
                    !index && (messages.get(c[1]).state != 0 || messages.get(c[1]).sent.get(c[2]) < 0));
        }

        static String text(int word) {
            StringBuilder letters = new StringBuilder();
            for (int i = 0; i < 5; i++) {
                letters.insert(0, (char) ('a' + word % 26));
                word /= 26;
            }
            return letters.toString();
        }

        static int withLetter(int word, int letter, int to) {
            StringBuilder letters = new StringBuilder(text(word));
            letters.setCharAt(letter, (char) ('a' + to));
            return Check.code(letters.toString());
        }

        private static int parts(String a, String b) {
            int parts = 0;
            for (int i = 0; i < 5; i++) {
                parts += a.charAt(i) == b.charAt(i) ? 0 : 1;
            }
            return parts;
        }

        private List<Integer> mayBe(int word) {
            List<Integer> same = new ArrayList<>();
            List<Integer> near = new ArrayList<>();
            String letters = text(word);
            for (int i = 0; i < entries.size(); i++) {
                String code = text(entries.get(i)[0]);
                if (code.equals(letters)) {
                    same.add(i);
                }
                boolean may = parts(code, letters) == 1;
                for (int j = 0; j < 4; j++) {
                    may |= letters.equals(code.substring(0, j) + code.charAt(j + 1) + code.charAt(j)
                            + code.substring(j + 2));
                }
                if (may) {
                    near.add(i);
                }
            }
            return same.isEmpty() ? near : same;
        }

        private int rulesAt(int office) {
            for (int number = conferences.size(); number > 0; number--) {
                if (conferences.get(number - 1)[0] * 1440 <= minute && !reserved[office][number]) {
                    return number;
                }
            }
            return 0;
        }

        private Way pack(int office, boolean packed) {
            int number = rulesAt(office);
            int[] rules = number == 0 ? new int[] {0, 15, 10, 0} : conferences.get(number - 1);
            best = null;
            tryWays(new Way(), 0, office, rules, packed);
            return best;
        }

        /** All ways, those with code words and longer phrases first: of ways alike the first one stays. */
        private void tryWays(Way way, int at, int office, int[] rules, boolean packed) {
            if (at == drafted.size()) {
                way.paid = paidFor(way, rules);
                if (best == null || way.paid < best.paid || way.paid == best.paid && way.codes < best.codes) {
                    best = new Way();
                    best.words.addAll(way.words);
                    best.codes = way.codes;
                    best.paid = way.paid;
                }
                return;
            }
            for (int length = 4; packed && length > 0; length--) {
                int sent = at + length <= drafted.size() ? codeFor(drafted.subList(at, at + length), office) : -1;
                if (sent >= 0 && text(sent).replaceAll("[^aeiou]", "").length() >= rules[3]) {
                    way.words.add(sent);
                    way.codes++;
                    tryWays(way, at + length, office, rules, packed);
                    way.codes--;
                    way.words.remove(way.words.size() - 1);
                }
            }
            way.words.add(-2 - drafted.get(at));
            tryWays(way, at + 1, office, rules, packed);
            way.words.remove(way.words.size() - 1);
        }

        private int codeFor(List<Integer> phrase, int office) {
            for (int i = 0; i < entries.size(); i++) {
                if (phraseOf(i).equals(phrase)) {
                    return entries.get((i + keys[office]) % entries.size())[0];
                }
            }
            return -1;
        }

        private List<Integer> phraseOf(int entry) {
            List<Integer> phrase = new ArrayList<>();
            for (int i = 1; i < 5; i++) {
                if (entries.get(entry)[i] >= 0) {
                    phrase.add(entries.get(entry)[i]);
                }
            }
            return phrase;
        }

        private int paidFor(Way way, int[] rules) {
            int by = way.codes == 0 ? rules[1] : rules[2];
            int paid = (way.codes * 5 + rules[2] - 1) / rules[2];
            for (int word : way.words) {
                paid += word < 0 ? (ideas.get(-2 - word) + by - 1) / by : 0;
            }
            return paid;
        }

        /** All routes over each office once at most, the least of them; null without. */
        private List<Integer> route(int from, int to) {
            List<List<Integer>> all = new ArrayList<>();
            findRoutes(from, to, new ArrayList<>(), 1 << from, all);
            List<Integer> least = null;
            for (List<Integer> route : all) {
                if (least == null || isLess(route, least)) {
                    least = route;
                }
            }
            return least;
        }

        private void findRoutes(int at, int to, List<Integer> route, int seen, List<List<Integer>> all) {
            if (at == to) {
                all.add(new ArrayList<>(route));
                return;
            }
            for (int i = 0; i < cables.size(); i++) {
                int[] cable = cables.get(i);
                int next = cable[0] == at ? cable[1] : cable[1] == at ? cable[0] : -1;
                if (next >= 0 && !brokenOnes.get(i) && (seen >> next & 1) == 0) {
                    route.add(i);
                    findRoutes(next, to, route, seen | 1 << next, all);
                    route.remove(route.size() - 1);
                }
            }
        }

        private boolean isLess(List<Integer> a, List<Integer> b) {
            if (rate(a) != rate(b)) {
                return rate(a) < rate(b);
            }
            if (a.size() != b.size()) {
                return a.size() < b.size();
            }
            for (int i = 0; i < a.size(); i++) {
                if (!a.get(i).equals(b.get(i))) {
                    return a.get(i) < b.get(i);
                }
            }
            return false;
        }

        private int rate(List<Integer> route) {
            int sum = 0;
            for (int cable : route) {
                sum += cables.get(cable)[2];
            }
            return sum;
        }

        private int send(int from, int to, int kind, boolean packed) {
            Way way = pack(from, packed);
            Sent sent = new Sent();
            sent.from = from;
            sent.to = to;
            sent.kind = kind;
            sent.paid = way.paid;
            sent.codes = way.codes;
            sent.sent = new ArrayList<>(way.words);
            sent.now = new ArrayList<>(way.words);
            sent.route = route(from, to);
            sent.price = rate(sent.route) * way.paid * (1 << kind);
            sent.office = from;
            sent.state = way.codes > 0 && forbidden[from] ? 2 : 0;
            messages.add(sent);
            drafted.clear();
            return messages.size() - 1;
        }

        private boolean isAt(Sent message, int cable) {
            return message.state == 0 && message.route.get(message.leg) == cable;
        }

        /** Cable by cable, with the queue that stood there as the minute began. */
        private void goByOne() {
            List<List<Sent>> queues = new ArrayList<>();
            for (int cable = 0; cable < cables.size(); cable++) {
                List<Sent> queue = new ArrayList<>();
                for (Sent message : messages) {
                    if (isAt(message, cable)) {
                        queue.add(message);
                    }
                }
                queue.sort((a, b) -> b.kind - a.kind);
                queues.add(queue);
            }
            for (int cable = 0; cable < cables.size(); cable++) {
                int room = brokenOnes.get(cable) ? 0 : cables.get(cable)[3];
                for (Sent message : queues.get(cable)) {
                    while (room > 0 && message.carried < message.paid) {
                        message.carried++;
                        room--;
                    }
                    if (message.carried == message.paid) {
                        goOn(message, cables.get(cable));
                    }
                }
            }
        }

        private void goOn(Sent message, int[] cable) {
            message.office = message.office == cable[0] ? cable[1] : cable[0];
            message.carried = 0;
            message.leg++;
            if (message.codes > 0 && forbidden[message.office]) {
                message.state = 2;
            } else if (message.office == message.to) {
                message.state = 1;
            }
        }

        private int account(int office) {
            int sum = 0;
            for (Sent message : messages) {
                sum -= message.from == office ? message.price : 0;
                for (int cable : message.route) {
                    int part = cables.get(cable)[2] * message.paid * (1 << message.kind);
                    sum += cables.get(cable)[0] == office ? part : 0;
                }
            }
            return sum;
        }

        private int read(Sent message, int place) {
            List<Integer> all = new ArrayList<>();
            for (int word : message.now) {
                List<Integer> may = word < 0 ? List.of() : mayBe(word);
                if (word < 0) {
                    all.add(-2 - word);
                } else if (may.size() != 1) {
                    all.add(Codewordcable.UNCLEAR);
                } else {
                    all.addAll(phraseOf(Math.floorMod(may.get(0) - keys[message.to], entries.size())));
                }
            }
            return place < all.size() ? all.get(place) : -1;
        }

        private int claim(Sent message) {
            for (int place = 0; place < message.sent.size(); place++) {
                for (int letter = 0; letter < 5 && message.sent.get(place) >= 0; letter++) {
                    if (text(message.sent.get(place)).charAt(letter) != text(message.now.get(place)).charAt(letter)) {
                        return place * 5 + letter;
                    }
                }
            }
            return -1;
        }

        private int ofMessage(Sent message, int what) {
            switch (what) {
                case 0: return message.state;
                case 1: return message.sent.size();
                case 2: return message.paid;
                case 3: return message.price;
                case 4: return message.state == 0 ? message.route.get(message.leg) : -1;
                default: return message.state == 2 ? message.office : -1;
            }
        }

        private int countAt(int cable) {
            int count = 0;
            for (Sent message : messages) {
                count += isAt(message, cable) ? 1 : 0;
            }
            return count;
        }

        private long answer(int[] c) {
            switch (NAMES[c[0]]) {
                case "idea": ideas.add(c[1]); return ideas.size() - 1;
                case "entry": entries.add(Arrays.copyOfRange(c, 1, 6)); return entries.size() - 1;
                case "candidates": return mayBe(c[1]).size();
                case "candidate": return c[2] < mayBe(c[1]).size() ? mayBe(c[1]).get(c[2]) : -1;
                case "office": return offices++;
                case "cable":
                    cables.add(Arrays.copyOfRange(c, 1, 5));
                    brokenOnes.add(false);
                    return cables.size() - 1;
                case "broken": brokenOnes.set(c[1], c[2] == 1); return countAt(c[1]);
                case "forbid": boolean was = forbidden[c[1]]; forbidden[c[1]] = c[2] == 1; return was ? 1 : 0;
                case "key": int key = keys[c[1]]; keys[c[1]] = c[2]; return key;
                case "conference": conferences.add(Arrays.copyOfRange(c, 1, 5)); return conferences.size();
                case "reserve": reserved[c[1]][c[2]] = true; return rulesAt(c[1]);
                case "draft": drafted.add(c[1]); return drafted.size();
                default: return answerOfMessages(c);
            }
        }

        private long answerOfMessages(int[] c) {
            switch (NAMES[c[0]]) {
                case "words": return pack(c[1], c[2] == 1).paid;
                case "send": return send(c[1], c[2], c[3], c[4] == 1);
                case "wrong":
                    List<Integer> now = messages.get(c[1]).now;
                    now.set(c[2], withLetter(now.get(c[2]), c[3], c[4]));
                    return now.get(c[2]);
                case "pass":
                    for (int i = 0; i < c[1]; i++) {
                        goByOne();
                    }
                    minute += c[1];
                    return minute;
                case "rest": minute += c[1] * 1440; return minute;
                case "ofMessage": return ofMessage(messages.get(c[1]), c[2]);
                case "word": Sent sent = messages.get(c[1]); return (c[3] == 1 ? sent.sent : sent.now).get(c[2]);
                case "read": return read(messages.get(c[1]), c[2]);
                case "claim": return claim(messages.get(c[1]));
                default: return account(c[1]);
            }
        }
    }
}
