import java.util.ArrayList;
import java.util.Arrays;
import java.util.LinkedHashMap;
import java.util.List;
import java.util.Map;
import java.util.NoSuchElementException;
import java.util.regex.Matcher;
import java.util.regex.Pattern;

/** The document written a second time, as plainly as can be and without a thought for speed. */
final class Plain {
    record Trade(int a, int b, List<Integer> given, int z) {
        int number() {
            int sum = 0;
            for (int sort : given) {
                sum = sum * 9 + sort + 1;
            }
            return sum;
        }
    }

    record Step(Trade trade, int person, int tie) {
    }

    record Law(int gives, int spoon, boolean burns) {
    }

    static final class Person {
        final Map<Integer, Integer> has = new LinkedHashMap<>();
        final Map<Integer, Integer> worth = new LinkedHashMap<>();
        final List<int[]> pairs = new ArrayList<>();
        Integer falls = null;
    }

    static final class Town {
        int sorts = 1;
        final List<Person> people = new ArrayList<>();
        final List<int[]> ties = new ArrayList<>();
        final List<int[]> meetings = new ArrayList<>();
        Law law = null;

        Law lawOrFirst() {
            return law == null ? new Law(2, -1, false) : law;
        }
    }

    static final class Fault extends Exception {
        final int number;
        final int place;

        Fault(int number, int place) {
            this.number = number;
            this.place = place;
        }
    }

    static final class Spent extends Exception {
    }

    private Town town = new Town();
    private int[][] now = new int[0][1];
    private int[][] image = null;
    private List<Step> way = new ArrayList<>();
    private int[] bag = null;
    private List<Integer> order = new ArrayList<>();
    private int[][] share = null;
    private final StringBuilder tape = new StringBuilder();
    private int fault = -1;
    private final int[] status = new int[3];

    // ---- the text

    private static final class Reading {
        final List<String> tokens = new ArrayList<>();
        final List<Integer> places = new ArrayList<>();
        int next = 0;
        final Town town = new Town();
        boolean first = true;

        Reading(String text) {
            Matcher m = Pattern.compile("[a-z]+|[0-9]+|[^ \n]", Pattern.DOTALL).matcher(text);
            while (m.find()) {
                tokens.add(m.group());
                places.add(m.start());
            }
            tokens.add("");
            places.add(text.length());
        }

        String peek() {
            return tokens.get(next);
        }

        Fault wrong(int number) {
            return new Fault(number, places.get(next));
        }

        void word(String word) throws Fault {
            if (!peek().equals(word)) {
                throw wrong(1);
            }
            next++;
        }

        int number(int least, int most) throws Fault {
            if (!peek().matches("[0-9]+")) {
                throw wrong(1);
            }
            if (peek().length() > 4) {
                throw wrong(2);
            }
            int value = Integer.parseInt(peek());
            if (value < least || value > most) {
                throw wrong(2);
            }
            return value;
        }

        int oneOf(int many) throws Fault {
            int value = number(0, 9999);
            if (value >= many) {
                throw wrong(3);
            }
            return value;
        }

        Town read() throws Fault {
            while (!peek().isEmpty()) {
                line();
                word(";");
                first = false;
            }
            return town;
        }

        void line() throws Fault {
            switch (peek()) {
                case "sorts" -> {
                    if (!first) {
                        throw wrong(5);
                    }
                    next++;
                    town.sorts = number(1, 8);
                    next++;
                }
                case "person" -> {
                    if (town.people.size() == 6) {
                        throw wrong(2);
                    }
                    next++;
                    person();
                }
                case "law" -> {
                    if (town.law != null) {
                        throw wrong(5);
                    }
                    next++;
                    law();
                }
                case "tie" -> {
                    if (town.ties.size() == 4) {
                        throw wrong(2);
                    }
                    next++;
                    int[] tie = new int[3];
                    for (int i = 0; i < 3; i++) {
                        tie[i] = oneOf(town.sorts);
                        if (i == 2 && (tie[2] == tie[0] || tie[2] == tie[1])) {
                            throw wrong(4);
                        }
                        next++;
                    }
                    town.ties.add(tie);
                }
                case "meet" -> {
                    if (town.meetings.size() == 8) {
                        throw wrong(2);
                    }
                    next++;
                    int a = oneOf(town.people.size());
                    next++;
                    int b = oneOf(town.people.size());
                    if (a == b) {
                        throw wrong(4);
                    }
                    next++;
                    town.meetings.add(new int[] {a, b});
                }
                default -> throw wrong(1);
            }
        }

        void law() throws Fault {
            int gives = number(1, 3);
            next++;
            int spoon = -1;
            boolean burns = false;
            if (peek().equals("spoon")) {
                next++;
                spoon = oneOf(town.sorts);
                next++;
            }
            if (peek().equals("burns")) {
                next++;
                burns = true;
            }
            town.law = new Law(gives, spoon, burns);
        }

        void person() throws Fault {
            Person p = new Person();
            town.people.add(p);
            while (!peek().equals(";")) {
                switch (peek()) {
                    case "has" -> ofSort(p.has, 20);
                    case "worth" -> ofSort(p.worth, 99);
                    case "falls" -> {
                        if (p.falls != null) {
                            throw wrong(5);
                        }
                        next++;
                        p.falls = number(0, 100);
                        next++;
                    }
                    case "pair" -> {
                        if (p.pairs.size() == 6) {
                            throw wrong(2);
                        }
                        next++;
                        int x = oneOf(town.sorts);
                        next++;
                        int y = oneOf(town.sorts);
                        if (x == y) {
                            throw wrong(4);
                        }
                        next++;
                        p.pairs.add(new int[] {x, y, number(0, 99)});
                        next++;
                    }
                    default -> throw wrong(1);
                }
            }
        }

        void ofSort(Map<Integer, Integer> told, int most) throws Fault {
            next++;
            int sort = oneOf(town.sorts);
            if (told.containsKey(sort)) {
                throw wrong(5);
            }
            next++;
            told.put(sort, number(0, most));
            next++;
        }
    }

    // ---- worth, trades, ties

    private int people() {
        return town.people.size();
    }

    private int likesOf(int person, int sort) {
        return town.people.get(person).worth.getOrDefault(sort, 0);
    }

    private int worthOf(int[][] state, int person) {
        Person p = town.people.get(person);
        int falls = p.falls == null ? 0 : p.falls;
        int sum = 0;
        for (int sort = 0; sort < town.sorts; sort++) {
            for (int i = 0; i < state[person][sort]; i++) {
                sum += likesOf(person, sort) * Math.max(0, 100 - falls * i);
            }
        }
        for (int[] pair : p.pairs) {
            if (state[person][pair[0]] > 0 && state[person][pair[1]] > 0) {
                sum += pair[2] * 100;
            }
        }
        return sum;
    }

    private int worthOfAll(int[][] state) {
        int sum = 0;
        for (int person = 0; person < people(); person++) {
            sum += worthOf(state, person);
        }
        return sum;
    }

    private int thingsIn(int[][] state) {
        int sum = 0;
        for (int[] row : state) {
            sum += Arrays.stream(row).sum();
        }
        return sum;
    }

    private static int[][] copy(int[][] state) {
        int[][] other = new int[state.length][];
        for (int i = 0; i < state.length; i++) {
            other[i] = state[i].clone();
        }
        return other;
    }

    private static String key(int[][] state) {
        return Arrays.deepToString(state);
    }

    private List<List<Integer>> rows(int length) {
        List<List<Integer>> found = new ArrayList<>();
        if (length == 0) {
            found.add(List.of());
            return found;
        }
        for (List<Integer> row : rows(length - 1)) {
            int from = row.isEmpty() ? 0 : row.get(row.size() - 1);
            for (int sort = from; sort < town.sorts; sort++) {
                List<Integer> longer = new ArrayList<>(row);
                longer.add(sort);
                found.add(longer);
            }
        }
        return found;
    }

    private boolean lawful(int[][] state, Law law, Trade t) {
        int[] rest = state[t.a].clone();
        for (int sort : t.given) {
            rest[sort]--;
            if (rest[sort] < 0) {
                return false;
            }
        }
        return state[t.b][t.z] > 0 && !t.given.contains(t.z)
                && (law.spoon == -1 || t.given.contains(law.spoon));
    }

    private int[][] after(int[][] state, Law law, Trade t) {
        int[][] other = copy(state);
        for (int sort : t.given) {
            other[t.a][sort]--;
        }
        List<Integer> to = t.given;
        if (law.burns) {
            int keeps = t.given.get(0);
            for (int sort : t.given) {
                if (sort != law.spoon) {
                    keeps = sort;
                    break;
                }
            }
            to = List.of(keeps);
        }
        for (int sort : to) {
            other[t.b][sort]++;
        }
        other[t.b][t.z]--;
        other[t.a][t.z]++;
        return other;
    }

    /** All lawful ones, in order. */
    private List<Trade> trades(int[][] state, Law law) {
        List<Trade> found = new ArrayList<>();
        List<List<Integer>> rows = rows(law.gives);
        for (int a = 0; a < people(); a++) {
            for (int b = 0; b < people(); b++) {
                for (List<Integer> row : rows) {
                    for (int z = 0; z < town.sorts && a != b; z++) {
                        Trade t = new Trade(a, b, row, z);
                        if (lawful(state, law, t)) {
                            found.add(t);
                        }
                    }
                }
            }
        }
        return found;
    }

    private int[][] afterTie(int[][] state, int person, int tie) {
        int[][] other = copy(state);
        int[] told = town.ties.get(tie);
        other[person][told[0]]--;
        other[person][told[1]]--;
        if (other[person][told[0]] < 0 || other[person][told[1]] < 0) {
            return null;
        }
        other[person][told[2]]++;
        return other;
    }

    private Trade wantedBest(int[][] state, Law law, int one, int two) {
        Trade best = null;
        int gain = 0;
        for (Trade t : trades(state, law)) {
            if (!(t.a == one && t.b == two) && !(t.a == two && t.b == one)) {
                continue;
            }
            int[][] behind = after(state, law, t);
            int gainA = worthOf(behind, t.a) - worthOf(state, t.a);
            int gainB = worthOf(behind, t.b) - worthOf(state, t.b);
            if (gainA > 0 && gainB > 0 && gainA + gainB > gain) {
                best = t;
                gain = gainA + gainB;
            }
        }
        return best;
    }

    /** How many trades a day makes; the state is changed in place. */
    private int passDay(int[][] state, Law law, List<int[]> meetings) {
        int made = 0;
        for (int[] meeting : meetings) {
            Trade t = wantedBest(state, law, meeting[0], meeting[1]);
            if (t != null) {
                int[][] behind = after(state, law, t);
                System.arraycopy(behind, 0, state, 0, state.length);
                made++;
            }
        }
        return made;
    }

    private int passToEnd(int[][] state, Law law) {
        int days = 0;
        while (days < 60 && passDay(state, law, town.meetings) > 0) {
            days++;
        }
        return days;
    }

    // ---- ways

    private record Node(int[][] state, List<Step> way) {
    }

    /** All states in the order they are come to; ends at the wish (person -1: none). */
    private List<Node> goThrough(int[][] begin, int person, int sort, int most) throws Spent {
        List<Node> nodes = new ArrayList<>();
        Map<String, Boolean> seen = new LinkedHashMap<>();
        nodes.add(new Node(begin, List.of()));
        seen.put(key(begin), true);
        if (person >= 0 && begin[person][sort] > 0) {
            return nodes;
        }
        Law law = town.lawOrFirst();
        for (int i = 0; i < nodes.size(); i++) {
            Node node = nodes.get(i);
            List<Step> steps = new ArrayList<>();
            List<int[][]> behinds = new ArrayList<>();
            for (Trade t : trades(node.state, law)) {
                int[][] behind = after(node.state, law, t);
                if (person >= 0) {
                    if (t.a != person && t.b != person) {
                        continue;
                    }
                    int other = t.a + t.b - person;
                    if (worthOf(behind, other) <= worthOf(node.state, other)) {
                        continue;
                    }
                }
                steps.add(new Step(t, -1, -1));
                behinds.add(behind);
            }
            for (int who = 0; who < people(); who++) {
                for (int tie = 0; tie < town.ties.size(); tie++) {
                    int[][] behind = afterTie(node.state, who, tie);
                    if (behind != null && (person < 0 || who == person)) {
                        steps.add(new Step(null, who, tie));
                        behinds.add(behind);
                    }
                }
            }
            for (int k = 0; k < steps.size(); k++) {
                int[][] behind = behinds.get(k);
                if (seen.putIfAbsent(key(behind), true) != null) {
                    continue;
                }
                if (nodes.size() == most) {
                    throw new Spent();
                }
                List<Step> longer = new ArrayList<>(node.way);
                longer.add(steps.get(k));
                nodes.add(new Node(behind, longer));
                if (person >= 0 && behind[person][sort] > 0) {
                    return nodes;
                }
            }
        }
        if (person >= 0) {
            return null;
        }
        return nodes;
    }

    private void bags(int[] full, int sort, int number, int[] part, List<int[]> found) {
        if (sort == full.length) {
            if (number == 0) {
                found.add(part.clone());
            }
            return;
        }
        for (int k = 0; k <= full[sort] && k <= number && found.size() <= 200; k++) {
            part[sort] = k;
            bags(full, sort + 1, number - k, part, found);
        }
        part[sort] = 0;
    }

    // ---- ahead

    private int thoughts;

    private int[] think(int[][] state, int meeting) throws Spent {
        int[] worths = new int[people()];
        if (meeting == town.meetings.size()) {
            for (int person = 0; person < people(); person++) {
                worths[person] = worthOf(state, person);
            }
            return worths;
        }
        thoughts++;
        if (thoughts > 3000) {
            throw new Spent();
        }
        int first = town.meetings.get(meeting)[0];
        int second = town.meetings.get(meeting)[1];
        int[] none = think(state, meeting + 1);
        int[] best = none;
        boolean found = false;
        for (Trade t : trades(state, town.lawOrFirst())) {
            if ((t.a != first || t.b != second) && (t.a != second || t.b != first)) {
                continue;
            }
            int[] by = think(after(state, town.lawOrFirst(), t), meeting + 1);
            if (by[first] > none[first] && by[second] > none[second] && (!found || by[first] > best[first])) {
                best = by;
                found = true;
            }
        }
        return best;
    }

    // ---- share, order

    private void sharings(int[] rest, int person, int sort, int[][] state, List<int[][]> found) {
        if (found.size() > 1500) {
            return;
        }
        if (person == people() - 1) {
            for (int s = 0; s < town.sorts; s++) {
                state[person][s] = rest[s];
            }
            found.add(copy(state));
            return;
        }
        if (sort == town.sorts) {
            sharings(rest, person + 1, 0, state, found);
            return;
        }
        int all = rest[sort];
        for (int k = all; k >= 0; k--) {
            state[person][sort] = k;
            rest[sort] = all - k;
            sharings(rest, person, sort + 1, state, found);
        }
        rest[sort] = all;
    }

    private void orders(List<Integer> row, List<List<Integer>> found) {
        if (row.size() == town.meetings.size()) {
            found.add(new ArrayList<>(row));
        }
        for (int i = 0; i < town.meetings.size(); i++) {
            if (!row.contains(i)) {
                row.add(i);
                orders(row, found);
                row.remove(row.size() - 1);
            }
        }
    }

    // ---- the face

    private static NoSuchElementException none() {
        return new NoSuchElementException();
    }

    private void mustBePerson(int person) {
        if (person < 0 || person >= people()) {
            throw none();
        }
    }

    private void mustBeSort(int sort) {
        if (sort < 0 || sort >= town.sorts) {
            throw none();
        }
    }

    int feed(int... five) {
        if (tape.length() + 20 > 700) {
            return -1;
        }
        for (int number : five) {
            for (int shift = 24; shift >= 0; shift -= 8) {
                tape.append((char) (number >> shift & 255));
            }
        }
        return tape.length();
    }

    int town(int n) {
        if (n < 0 || n > tape.length()) {
            throw new IllegalArgumentException();
        }
        String text = tape.substring(0, n);
        tape.setLength(0);
        try {
            town = new Reading(text).read();
        } catch (Fault f) {
            fault = f.place;
            status[0]++;
            return f.number;
        }
        fault = -1;
        now = new int[people()][town.sorts];
        for (int person = 0; person < people(); person++) {
            for (Map.Entry<Integer, Integer> told : town.people.get(person).has.entrySet()) {
                now[person][told.getKey()] = told.getValue();
            }
        }
        image = null;
        way = new ArrayList<>();
        bag = null;
        order = new ArrayList<>();
        share = null;
        return 0;
    }

    int fault() {
        return fault;
    }

    int count(int what) {
        Law law = town.lawOrFirst();
        int[] counts = {people(), town.sorts, law.gives, law.spoon, law.burns ? 1 : 0, town.ties.size(),
            town.meetings.size(), tape.length(), thingsIn(now), status[0], status[1], status[2]};
        if (what < 0 || what >= counts.length) {
            throw none();
        }
        return counts[what];
    }

    int has(int person, int sort) {
        mustBePerson(person);
        mustBeSort(sort);
        return now[person][sort];
    }

    int likes(int person, int sort) {
        mustBePerson(person);
        mustBeSort(sort);
        return likesOf(person, sort);
    }

    int worth(int person) {
        if (person == -1) {
            return worthOfAll(now);
        }
        mustBePerson(person);
        return worthOf(now, person);
    }

    int left(int sort) {
        mustBeSort(sort);
        int sum = 0;
        for (int[] row : now) {
            sum += row[sort];
        }
        return sum;
    }

    int meeting(int meeting, int what) {
        if (meeting < 0 || meeting >= town.meetings.size() || what < 0 || what > 1) {
            throw none();
        }
        return town.meetings.get(meeting)[what];
    }

    private Trade tradeOf(int a, int b, int given, int z) {
        mustBePerson(a);
        mustBePerson(b);
        mustBeSort(z);
        if (a == b) {
            throw none();
        }
        for (List<Integer> row : rows(town.lawOrFirst().gives)) {
            Trade t = new Trade(a, b, row, z);
            if (t.number() == given) {
                return t;
            }
        }
        throw none();
    }

    int look(int a, int b, int given, int z, int what) {
        Trade t = tradeOf(a, b, given, z);
        if (what < 0 || what > 3) {
            throw none();
        }
        boolean lawful = lawful(now, town.lawOrFirst(), t);
        if (what == 0) {
            return lawful ? 1 : 0;
        }
        if (!lawful) {
            throw new IllegalArgumentException();
        }
        int[][] behind = after(now, town.lawOrFirst(), t);
        int gainA = worthOf(behind, a) - worthOf(now, a);
        int gainB = worthOf(behind, b) - worthOf(now, b);
        return what == 1 ? gainA : what == 2 ? gainB : gainA > 0 && gainB > 0 ? gainA + gainB : 0;
    }

    int trade(int a, int b, int given, int z) {
        Trade t = tradeOf(a, b, given, z);
        if (!lawful(now, town.lawOrFirst(), t)) {
            status[1]++;
            return 0;
        }
        now = after(now, town.lawOrFirst(), t);
        return 1;
    }

    int tie(int person, int tie) {
        mustBePerson(person);
        if (tie < 0 || tie >= town.ties.size()) {
            throw none();
        }
        int[][] behind = afterTie(now, person, tie);
        if (behind == null) {
            status[2]++;
            return 0;
        }
        now = behind;
        return 1;
    }

    int come(int person, int sort) {
        mustBePerson(person);
        mustBeSort(sort);
        try {
            List<Node> nodes = goThrough(now, person, sort, 1000);
            if (nodes == null) {
                return -1;
            }
            way = nodes.get(nodes.size() - 1).way;
            return way.size();
        } catch (Spent e) {
            return -2;
        }
    }

    int step(int i, int what) {
        if (i < 0 || i >= way.size() || what < 0 || what > 3) {
            throw none();
        }
        Step s = way.get(i);
        if (s.trade == null) {
            return new int[] {s.person, -1, s.tie, -1}[what];
        }
        return new int[] {s.trade.a, s.trade.b, s.trade.number(), s.trade.z}[what];
    }

    int poor(int person, int sort) {
        mustBePerson(person);
        mustBeSort(sort);
        int tried = 0;
        int things = Arrays.stream(now[person]).sum();
        try {
            for (int number = 0; number <= things; number++) {
                List<int[]> found = new ArrayList<>();
                bags(now[person], 0, number, new int[town.sorts], found);
                for (int[] part : found) {
                    tried++;
                    if (tried > 100) {
                        return -2;
                    }
                    int[][] state = copy(now);
                    state[person] = part.clone();
                    if (goThrough(state, person, sort, 300) != null) {
                        bag = part;
                        return number;
                    }
                }
            }
            return -1;
        } catch (Spent e) {
            return -2;
        }
    }

    int bag(int sort) {
        mustBeSort(sort);
        if (bag == null) {
            throw none();
        }
        return bag[sort];
    }

    int most() {
        try {
            Node best = null;
            for (Node node : goThrough(now, -1, -1, 400)) {
                if (best == null || worthOfAll(node.state) > worthOfAll(best.state)) {
                    best = node;
                }
            }
            way = best.way;
            return worthOfAll(best.state);
        } catch (Spent e) {
            return -2;
        }
    }

    int freely() {
        int sum = 0;
        for (int sort = 0; sort < town.sorts; sort++) {
            int most = 0;
            for (int person = 0; person < people(); person++) {
                most = Math.max(most, likesOf(person, sort));
            }
            sum += left(sort) * most * 100;
        }
        for (Person p : town.people) {
            for (int[] pair : p.pairs) {
                sum += pair[2] * 100;
            }
        }
        return sum;
    }

    int meet(int a, int b) {
        mustBePerson(a);
        mustBePerson(b);
        if (a == b) {
            throw none();
        }
        int before = worthOfAll(now);
        passDay(now, town.lawOrFirst(), List.of(new int[] {a, b}));
        return worthOfAll(now) - before;
    }

    int days(int days) {
        if (days < 0 || days > 60) {
            throw new IllegalArgumentException();
        }
        int made = 0;
        for (int day = 0; day < days; day++) {
            made += passDay(now, town.lawOrFirst(), town.meetings);
        }
        return made;
    }

    int end(int what) {
        if (what < 0) {
            throw none();
        }
        if (what > 2) {
            mustBePerson(what - 3);
        }
        int[][] state = copy(now);
        int days = passToEnd(state, town.lawOrFirst());
        return what == 0 ? days : what == 1 ? thingsIn(state) : what == 2 ? worthOfAll(state)
                : worthOf(state, what - 3);
    }

    int order() {
        if (town.meetings.size() > 5) {
            return -1;
        }
        List<List<Integer>> all = new ArrayList<>();
        orders(new ArrayList<>(), all);
        int most = -1;
        for (List<Integer> row : all) {
            List<int[]> meetings = new ArrayList<>();
            for (int i : row) {
                meetings.add(town.meetings.get(i));
            }
            int[][] state = copy(now);
            passDay(state, town.lawOrFirst(), meetings);
            if (worthOfAll(state) > most) {
                most = worthOfAll(state);
                order = row;
            }
        }
        return most;
    }

    int ordered(int i) {
        if (i < 0 || i >= order.size()) {
            throw none();
        }
        return order.get(i);
    }

    int ahead(int person) {
        mustBePerson(person);
        thoughts = 0;
        try {
            return think(now, 0)[person];
        } catch (Spent e) {
            return -2;
        }
    }

    int still(int person, int d, int what) {
        mustBePerson(person);
        if (what < 0 || what > 1) {
            throw none();
        }
        if (d < 1 || d > 10) {
            throw new IllegalArgumentException();
        }
        List<int[]> without = new ArrayList<>();
        for (int[] meeting : town.meetings) {
            if (meeting[0] != person && meeting[1] != person) {
                without.add(meeting);
            }
        }
        int best = -1;
        int waits = -1;
        for (int w = 0; w <= 10; w++) {
            int[][] state = copy(now);
            for (int day = 0; day < w; day++) {
                passDay(state, town.lawOrFirst(), without);
            }
            for (int day = 0; day < d; day++) {
                passDay(state, town.lawOrFirst(), town.meetings);
            }
            if (worthOf(state, person) > best) {
                best = worthOf(state, person);
                waits = w;
            }
        }
        return what == 0 ? waits : best;
    }

    int share(int what) {
        if (what < 0 || what > 1) {
            throw none();
        }
        if (people() == 0) {
            return -1;
        }
        int[] all = new int[town.sorts];
        for (int sort = 0; sort < town.sorts; sort++) {
            all[sort] = left(sort);
        }
        List<int[][]> found = new ArrayList<>();
        sharings(all, 0, 0, new int[people()][town.sorts], found);
        if (found.size() > 1500) {
            return -2;
        }
        int bestLeast = -1;
        int bestAll = -1;
        for (int[][] way : found) {
            int[][] state = copy(way);
            passDay(state, town.lawOrFirst(), town.meetings);
            int least = worthOf(state, 0);
            for (int person = 1; person < people(); person++) {
                least = Math.min(least, worthOf(state, person));
            }
            int together = worthOfAll(state);
            if (least > bestLeast || (least == bestLeast && together > bestAll)) {
                bestLeast = least;
                bestAll = together;
                share = way;
            }
        }
        return what == 0 ? bestLeast : bestAll;
    }

    int shared(int person, int sort) {
        mustBePerson(person);
        mustBeSort(sort);
        if (share == null) {
            throw none();
        }
        return share[person][sort];
    }

    int law(int law, int what) {
        if (law < 0 || law > 5 || what < 0 || what > 1) {
            throw none();
        }
        int[][] state = copy(now);
        passToEnd(state, new Law(law / 2 + 1, town.lawOrFirst().spoon, law % 2 > 0));
        return what == 0 ? thingsIn(state) : worthOfAll(state);
    }

    int best() {
        int best = 0;
        for (int law = 1; law < 6; law++) {
            if (law(law, 1) > law(best, 1)) {
                best = law;
            }
        }
        return best;
    }

    int run(int meetings, int seed) {
        if (meetings < 0 || meetings > 400 || people() < 2) {
            throw new IllegalArgumentException();
        }
        int made = 0;
        int s = seed;
        for (int i = 0; i < meetings; i++) {
            s = s * 1103515245 + 12345;
            int a = (s >> 16 & 0x7fff) % people();
            s = s * 1103515245 + 12345;
            int b = (s >> 16 & 0x7fff) % (people() - 1);
            if (b >= a) {
                b++;
            }
            made += passDay(now, town.lawOrFirst(), List.of(new int[] {a, b}));
        }
        return made;
    }

    void image() {
        image = copy(now);
    }

    int restore() {
        if (image == null) {
            return 0;
        }
        now = copy(image);
        return 1;
    }
}
