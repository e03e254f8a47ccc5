import java.util.ArrayList;
import java.util.Collections;
import java.util.Comparator;
import java.util.HashMap;
import java.util.HashSet;
import java.util.List;
import java.util.Map;
import java.util.Set;
import java.util.TreeMap;

/**
 * The document read a second time, sentence by sentence, in other ways than the class (lists, sorting, steps of one
 * cell), with no thought of speed: ReadingTest compares the two.
 */
final class Reading {
    private static final int NONE = -1;

    private static final class Song {
        int votes;
        boolean isStruck;
    }

    private static final class Society {
        int league;
        int members;
        int money;
        int words;
        int day;
        List<Song> songs = new ArrayList<>();
        boolean hadRound;
        List<int[]> floats = new ArrayList<>();
        boolean isIn;
        int lot;
        int began = NONE;
        int out = NONE;
        int gaps;
        List<Map<Integer, Integer>> notes = new ArrayList<>();
        List<int[]> penalties = new ArrayList<>();

        Society() {
            for (int i = 0; i < 5; i++) {
                notes.add(new TreeMap<>());
            }
        }
    }

    private static final class Part {
        int society;
        int number;
        int length;
        int front = -1;
        int stopped;
        boolean hasToWait;

        int tail() {
            return front - length + 1;
        }
    }

    private static final class March {
        int least;
        int most;
        int minute;
        boolean hasEnded;
        List<Part> line = new ArrayList<>();
        Map<Integer, Integer> held = new HashMap<>();
    }

    private final List<Society> societies = new ArrayList<>();
    private final Set<Set<Integer>> feuds = new HashSet<>();
    private final Map<Set<Integer>, int[]> streets = new HashMap<>();
    private final List<List<Integer>> routes = List.of(new ArrayList<>(), new ArrayList<>());
    private final List<List<Integer>> orders = List.of(new ArrayList<>(), new ArrayList<>());
    private final Set<Integer> juries = new HashSet<>();
    private final March[] marches = new March[2];
    private final int[] lastFirst = {NONE, NONE};
    private int cameUp = NONE;
    private int drawn;
    private boolean isWet;

    /** Answers a call of the face by its name; a boolean counts 1 or 0. */
    int call(String name, int[] a) {
        switch (name) {
            case "society":
                return society(a[0], a[1]);
            case "feud":
                return feud(a[0], a[1], is(a[2]));
            case "theme":
                return theme(a[0], a[1], a[2]);
            case "song":
                return song(a[0]);
            case "vote":
                return vote(a[0], a[1], a[2]);
            case "round":
                return round(a[0]);
            case "street":
                return street(a);
            case "route":
                return route(a[0], a[1]);
            case "goOn":
                return goOn(a[0], a[1]);
            case "jury":
                return jury(a[0], is(a[1]));
            case "build":
                return build(a);
            case "cut":
                return cut(a);
            case "fits":
                return fits(a[0], a[1]);
            case "enter":
                return enter(a[0], a[1]);
            case "change":
                return change(a[0], a[1]);
            case "order":
                return order(a[0], a[1]);
            case "begin":
                return begin(a[0], a[1], a[2]);
            default:
                return laterCall(name, a);
        }
    }

    private int laterCall(String name, int[] a) {
        switch (name) {
            case "stop":
                return stop(a[0], a[1], a[2]);
            case "rain":
                return rain(is(a[0]));
            case "ambulance":
                return ambulance(a[0]);
            case "march":
                return march(a[0], a[1]);
            case "part":
                return part(a[0], a[1], a[2]);
            case "clock":
                return clock(a[0], a[1]);
            case "note":
                return note(a[0], a[1], a[2], a[3]);
            case "penalty":
                return penalty(a[0], a[1], a[2]);
            case "appeal":
                return appeal(a[0], a[1]);
            case "draw":
                return draw(a[0]);
            case "endYear":
                return endYear();
            case "about":
                return about(a[0], a[1]);
            case "notes":
                return notes(a[0], a[1]);
            case "penaltyAt":
                return penaltyAt(a[0], a[1], a[2]);
            case "isDoubted":
                return isDoubted(a[0], a[1]);
            case "table":
                return table(a[0], a[1]);
            default:
                throw new AssertionError(name);
        }
    }

    private static boolean is(int argument) {
        return (argument & 1) == 1;
    }

    private static int told(boolean is) {
        return is ? 1 : 0;
    }

    private static boolean among(int value, int least, int most) {
        return least <= value && value <= most;
    }

    private static void index(boolean isRight) {
        if (!isRight) {
            throw new IndexOutOfBoundsException();
        }
    }

    private static void argument(boolean isRight) {
        if (!isRight) {
            throw new IllegalArgumentException();
        }
    }

    private static void state(boolean isRight) {
        if (!isRight) {
            throw new IllegalStateException();
        }
    }

    private Society the(int society) {
        index(among(society, 0, societies.size() - 1));
        return societies.get(society);
    }

    // ---- societies

    private int society(int league, int members) {
        argument(among(league, 0, 1) && among(members, 1, 200));
        state(societies.size() < 10);
        Society founded = new Society();
        founded.league = league;
        founded.members = members;
        societies.add(founded);
        return societies.size() - 1;
    }

    private int feud(int one, int other, boolean isOn) {
        the(one);
        the(other);
        argument(one != other);
        boolean had = isOn ? !feuds.add(Set.of(one, other)) : feuds.remove(Set.of(one, other));
        return told(had);
    }

    private boolean isFeud(int one, int other) {
        return feuds.contains(Set.of(one, other));
    }

    private static boolean isLike(Society other, int words) {
        int common = 0;
        for (int bit = 0; bit <= 11; bit++) {
            common += (other.words >> bit) & (words >> bit) & 1;
        }
        return common >= 3;
    }

    private int theme(int society, int words, int day) {
        Society own = the(society);
        argument(among(words, 1, 4095) && among(day, 1, 99));
        own.words = 0;
        List<Society> later = new ArrayList<>();
        for (Society other : societies) {
            if (other != own && other.words != 0 && isLike(other, words)) {
                if (other.day <= day) {
                    return NONE;
                }
                later.add(other);
            }
        }
        later.forEach(other -> other.words = 0);
        own.words = words;
        own.day = day;
        return later.size();
    }

    private int song(int society) {
        Society own = the(society);
        state(own.songs.size() < 6 && !own.hadRound);
        own.songs.add(new Song());
        return own.songs.size() - 1;
    }

    private static List<Song> left(Society own) {
        List<Song> left = new ArrayList<>(own.songs);
        left.removeIf(song -> song.isStruck);
        return left;
    }

    private int vote(int society, int song, int votes) {
        Society own = the(society);
        index(among(song, 0, own.songs.size() - 1));
        argument(among(votes, 1, 99));
        state(!own.songs.get(song).isStruck && left(own).size() > 1);
        own.songs.get(song).votes += votes;
        return own.songs.get(song).votes;
    }

    private int round(int society) {
        Society own = the(society);
        state(left(own).size() >= 2);
        List<Song> left = left(own);
        Collections.reverse(left);
        Song out = Collections.min(left, Comparator.comparingInt(song -> song.votes));
        out.isStruck = true;
        own.songs.forEach(song -> song.votes = 0);
        own.hadRound = true;
        return own.songs.indexOf(out);
    }

    // ---- streets, floats

    private static void corner(int corner) {
        index(among(corner, 0, 11));
    }

    private int street(int[] a) {
        corner(a[0]);
        corner(a[1]);
        argument(a[0] != a[1] && among(a[2], 1, 30) && among(a[3], 3, 30) && among(a[4], 2, 30)
                && among(a[5], 1, 99));
        state(streets.size() < 16 && !streets.containsKey(Set.of(a[0], a[1])));
        streets.put(Set.of(a[0], a[1]), new int[] {a[2], a[3], a[4], a[5]});
        return streets.size();
    }

    private boolean isOpen(int league) {
        boolean isOpen = marches[league] == null;
        for (Society society : societies) {
            isOpen &= !(society.isIn && society.league == league);
        }
        return isOpen;
    }

    private int route(int league, int corner) {
        corner(corner);
        argument(among(league, 0, 1));
        state(isOpen(league));
        routes.get(league).clear();
        routes.get(league).add(corner);
        return 0;
    }

    private int goOn(int league, int corner) {
        corner(corner);
        argument(among(league, 0, 1));
        List<Integer> route = routes.get(league);
        state(isOpen(league) && !route.isEmpty() && route.size() < 10 && !route.contains(corner));
        state(streets.containsKey(Set.of(route.get(route.size() - 1), corner)));
        route.add(corner);
        return cells(league);
    }

    /** The streets of a route, from its first corner on. */
    private List<int[]> ways(int league) {
        List<int[]> ways = new ArrayList<>();
        List<Integer> route = routes.get(league);
        for (int i = 1; i < route.size(); i++) {
            ways.add(streets.get(Set.of(route.get(i - 1), route.get(i))));
        }
        return ways;
    }

    private int cells(int league) {
        return ways(league).stream().mapToInt(way -> way[0]).sum();
    }

    /** Which corners are at which cell of the route. */
    private Map<Integer, List<Integer>> cornersAt(int league) {
        Map<Integer, List<Integer>> corners = new HashMap<>();
        List<Integer> route = routes.get(league);
        int cell = 0;
        for (int i = 0; i < route.size(); i++) {
            boolean isLast = i == route.size() - 1;
            corners.computeIfAbsent(isLast ? cells(league) - 1 : cell, none -> new ArrayList<>()).add(route.get(i));
            cell += isLast ? 0 : ways(league).get(i)[0];
        }
        return corners;
    }

    private int jury(int corner, boolean isThere) {
        corner(corner);
        return told(isThere ? !juries.add(corner) : juries.remove(corner));
    }

    private int build(int[] a) {
        Society own = the(a[0]);
        argument(among(a[1], 1, 20) && among(a[2], 1, 20) && among(a[3], 1, 99) && among(a[4], 1, 20));
        state(own.floats.size() < 3 && !own.isIn);
        own.floats.add(new int[] {a[1], a[2], a[3], a[4]});
        return own.floats.size() - 1;
    }

    private int cut(int[] a) {
        Society own = the(a[0]);
        index(among(a[1], 0, own.floats.size() - 1));
        int[] whole = own.floats.get(a[1]);
        for (int i = 0; i < 4; i++) {
            argument(among(a[2 + i], 1, whole[i]));
        }
        state(!own.isIn);
        int less = 0;
        for (int i = 0; i < 4; i++) {
            less += whole[i] - a[2 + i];
            whole[i] = a[2 + i];
        }
        return less;
    }

    private int fits(int society, int number) {
        Society own = the(society);
        index(among(number, 0, own.floats.size() - 1));
        return told(isFit(own.floats.get(number), own.league));
    }

    private boolean isFit(int[] wagon, int league) {
        List<int[]> ways = ways(league);
        boolean isFit = !ways.isEmpty();
        for (int i = 0; i < ways.size(); i++) {
            int[] way = ways.get(i);
            isFit &= wagon[0] + 2 <= way[1] && wagon[1] + 1 <= way[2] && wagon[2] <= way[3];
            isFit &= i == 0 || wagon[3] <= ways.get(i - 1)[1] + way[1];
        }
        return isFit;
    }

    // ---- the order, the march

    private int enter(int society, int lot) {
        Society own = the(society);
        argument(among(lot, 0, 99));
        state(!own.isIn && marches[own.league] == null && !ways(own.league).isEmpty());
        own.floats.forEach(wagon -> state(isFit(wagon, own.league)));
        own.isIn = true;
        own.lot = lot;
        List<Integer> order = orders.get(own.league);
        order.clear();
        order.addAll(marchers(own.league));
        order.sort(Comparator.comparingInt(number -> societies.get(number).lot));
        if (order.remove((Integer) lastFirst[own.league])) {
            order.add(lastFirst[own.league]);
        }
        if (order.remove((Integer) cameUp)) {
            order.add(0, cameUp);
        }
        for (int i = 0; i < 10; i++) {
            partFeud(order);
        }
        return order.size();
    }

    private List<Integer> marchers(int league) {
        List<Integer> marchers = new ArrayList<>();
        for (int i = 0; i < societies.size(); i++) {
            if (societies.get(i).isIn && societies.get(i).league == league) {
                marchers.add(i);
            }
        }
        return marchers;
    }

    private void partFeud(List<Integer> order) {
        for (int second = 1; second < order.size(); second++) {
            if (isFeud(order.get(second - 1), order.get(second))) {
                if (second + 1 < order.size()) {
                    Collections.swap(order, second, second + 1);
                } else if (second - 2 >= 0) {
                    Collections.swap(order, second - 1, second - 2);
                }
                return;
            }
        }
    }

    /** The pairs of neighbours with a feud. */
    private Set<Set<Integer>> quarrels(List<Integer> order) {
        Set<Set<Integer>> quarrels = new HashSet<>();
        for (int i = 1; i < order.size(); i++) {
            quarrels.add(Set.of(order.get(i - 1), order.get(i)));
        }
        quarrels.retainAll(feuds);
        return quarrels;
    }

    private int change(int one, int other) {
        Society first = the(one);
        Society second = the(other);
        argument(one != other);
        state(first.isIn && second.isIn && first.league == second.league && marches[first.league] == null);
        List<Integer> order = orders.get(first.league);
        Set<Set<Integer>> before = quarrels(order);
        Collections.swap(order, order.indexOf(one), order.indexOf(other));
        if (!before.containsAll(quarrels(order))) {
            Collections.swap(order, order.indexOf(one), order.indexOf(other));
            return 0;
        }
        return 1;
    }

    private int order(int league, int place) {
        index(place >= 0);
        argument(among(league, 0, 1));
        return place < orders.get(league).size() ? orders.get(league).get(place) : NONE;
    }

    private int begin(int league, int least, int most) {
        argument(among(league, 0, 1) && among(least, 1, 200) && among(most, least, 200));
        state(marches[league] == null && !orders.get(league).isEmpty());
        March march = new March();
        march.least = least;
        march.most = most;
        marches[league] = march;
        for (int society : orders.get(league)) {
            Society own = societies.get(society);
            int wing = Math.min(9, own.members / 10 + 1);
            for (int i = 0; i < own.floats.size(); i++) {
                addPart(march, society, i, own.floats.get(i)[3]);
                addPart(march, society, NONE, wing);
            }
            if (own.floats.isEmpty()) {
                addPart(march, society, NONE, wing);
            }
        }
        return march.line.size();
    }

    private static void addPart(March march, int society, int number, int length) {
        Part part = new Part();
        part.society = society;
        part.number = number;
        part.length = length;
        march.line.add(part);
    }

    private boolean goesOn(int league) {
        return marches[league] != null && !marches[league].hasEnded;
    }

    private int stop(int league, int part, int minutes) {
        argument(among(league, 0, 1) && among(minutes, 1, 20));
        state(goesOn(league));
        index(among(part, 0, marches[league].line.size() - 1));
        Part stopped = marches[league].line.get(part);
        index(!isOut(stopped, league));
        stopped.stopped += minutes;
        return stopped.stopped;
    }

    private boolean isOut(Part part, int league) {
        return part.tail() > cells(league) - 1;
    }

    private int rain(boolean isOn) {
        boolean was = isWet;
        isWet = isOn;
        return told(was);
    }

    private int ambulance(int corner) {
        corner(corner);
        int parts = 0;
        for (int league = 0; league < 2; league++) {
            if (goesOn(league)) {
                marches[league].held.put(corner, 2);
                for (Part part : marches[league].line) {
                    parts += told(isOn(part, corner, league));
                }
            }
        }
        return parts;
    }

    private boolean isOn(Part part, int corner, int league) {
        boolean isOn = false;
        for (int cell = part.tail(); cell <= part.front; cell++) {
            isOn |= cornersAt(league).getOrDefault(cell, List.of()).contains(corner);
        }
        return isOn;
    }

    private int march(int league, int minutes) {
        argument(among(league, 0, 1) && among(minutes, 1, 60));
        state(goesOn(league));
        int rest = minutes;
        while (rest > 0 && goesOn(league)) {
            minute(league, marches[league]);
            rest--;
        }
        return marches[league].minute;
    }

    private void minute(int league, March march) {
        march.minute++;
        Map<Integer, List<Integer>> corners = cornersAt(league);
        for (int i = 0; i < march.line.size(); i++) {
            Part part = march.line.get(i);
            if (!isOut(part, league)) {
                move(part, i == 0 ? null : march.line.get(i - 1), league, corners);
            }
        }
        countGaps(league, march);
        for (Part part : march.line) {
            part.stopped -= part.stopped > 0 ? 1 : 0;
        }
        march.held.replaceAll((corner, minutes) -> minutes - 1);
        march.held.values().removeIf(minutes -> minutes <= 0);
        readClocks(league, march);
    }

    private void move(Part part, Part ahead, int league, Map<Integer, List<Integer>> corners) {
        boolean stays = part.hasToWait || part.stopped > 0;
        part.hasToWait = false;
        int steps = stays ? 0 : part.number == NONE && !isWet ? 3 : 2;
        boolean isFree = ahead == null || isOut(ahead, league);
        for (int i = 0; i < steps; i++) {
            int next = part.front + 1;
            List<Integer> there = corners.getOrDefault(next, List.of());
            boolean isHeld = there.stream().anyMatch(marches[league].held::containsKey);
            if (isHeld || !(isFree || next <= ahead.tail() - 2)) {
                return;
            }
            part.front = next;
            if (there.stream().anyMatch(juries::contains)) {
                part.hasToWait = true;
                return;
            }
        }
    }

    private void countGaps(int league, March march) {
        for (int i = 1; i < march.line.size(); i++) {
            Part ahead = march.line.get(i - 1);
            Part behind = march.line.get(i);
            int free = 0;
            for (int cell = behind.front + 1; cell < ahead.tail(); cell++) {
                free++;
            }
            boolean areOn = among(ahead.front, 0, cells(league) - 1) && among(behind.front, 0, cells(league) - 1);
            if (ahead.society == behind.society && areOn && free > 6) {
                societies.get(ahead.society).gaps++;
            }
        }
    }

    private void readClocks(int league, March march) {
        boolean areAllOut = true;
        for (int society : marchers(league)) {
            Society own = societies.get(society);
            List<Part> parts = new ArrayList<>(march.line);
            parts.removeIf(part -> part.society != society);
            if (own.began == NONE && parts.get(0).front >= 0) {
                own.began = march.minute;
            }
            if (own.out == NONE && isOut(parts.get(parts.size() - 1), league)) {
                own.out = march.minute;
            }
            areAllOut &= parts.stream().allMatch(part -> isOut(part, league));
        }
        if (areAllOut) {
            march.hasEnded = true;
            marchers(league).forEach(society -> fine(societies.get(society), march));
        }
    }

    private static void fine(Society own, March march) {
        int time = own.out - own.began + 1;
        if (time < march.least) {
            own.penalties.add(new int[] {1, (march.least - time) * 2, 0});
        }
        if (time > march.most) {
            own.penalties.add(new int[] {2, (time - march.most) * 2, 0});
        }
        if (own.gaps > 0) {
            own.penalties.add(new int[] {3, own.gaps, 0});
        }
    }

    private int part(int league, int part, int what) {
        argument(among(league, 0, 1) && among(what, 0, 4));
        state(marches[league] != null);
        index(among(part, 0, marches[league].line.size() - 1));
        Part asked = marches[league].line.get(part);
        int[] answers = {asked.society, asked.number, asked.front, asked.length, told(isOut(asked, league))};
        return answers[what];
    }

    private int clock(int society, int what) {
        Society own = the(society);
        argument(among(what, 0, 3));
        int time = own.out == NONE ? NONE : own.out - own.began + 1;
        return new int[] {own.began, own.out, own.gaps, time}[what];
    }

    // ---- notes, penalties, tables

    private boolean hasMarched(Society own) {
        return own.isIn && marches[own.league] != null && marches[own.league].hasEnded;
    }

    private int note(int judge, int society, int category, int note) {
        Society own = the(society);
        argument(among(judge, 0, 3) && among(category, 0, 4) && among(note, 50, 100));
        state(hasMarched(own));
        Integer before = own.notes.get(category).put(judge, note);
        return before == null ? NONE : before;
    }

    private int penalty(int society, int paragraph, int tenths) {
        Society own = the(society);
        argument(among(paragraph, 4, 9) && among(tenths, 1, 99));
        state(hasMarched(own) && own.penalties.size() < 20);
        own.penalties.add(new int[] {paragraph, tenths, 0});
        return own.penalties.size();
    }

    private int appeal(int society, int number) {
        Society own = the(society);
        index(among(number, 0, own.penalties.size() - 1));
        state(own.penalties.get(number)[2] == 0);
        own.penalties.get(number)[2] = 1;
        return points(own);
    }

    private static int together(Society own, int category) {
        List<Integer> notes = new ArrayList<>(own.notes.get(category).values());
        Collections.sort(notes);
        if (notes.size() == 4) {
            notes = notes.subList(1, 3);
        } else if (notes.size() == 3) {
            notes = notes.subList(1, 3);
        }
        return notes.stream().mapToInt(note -> note).sum();
    }

    private static int points(Society own) {
        int points = 0;
        for (int category = 0; category < 5; category++) {
            points += together(own, category);
        }
        for (int[] penalty : own.penalties) {
            points -= penalty[2] == 1 ? 0 : penalty[1];
        }
        return points;
    }

    private int draw(int first) {
        argument(among(first, 0, 4));
        int before = drawn;
        drawn = first;
        return before;
    }

    private List<Integer> ranked(int league) {
        List<Integer> ranked = new ArrayList<>();
        if (marches[league] != null && marches[league].hasEnded) {
            ranked.addAll(marchers(league));
        }
        Comparator<Integer> best = Comparator.comparingInt(number -> -points(societies.get(number)));
        for (int i = drawn; i < drawn + 5; i++) {
            int category = i > 4 ? i - 5 : i;
            best = best.thenComparingInt(number -> -together(societies.get(number), category));
        }
        ranked.sort(best.thenComparingInt(number -> number));
        return ranked;
    }

    private int endYear() {
        state(!goesOn(0) && !goesOn(1) && (marches[0] != null || marches[1] != null));
        List<List<Integer>> tables = List.of(ranked(0), ranked(1));
        for (int league = 0; league < 2; league++) {
            List<Integer> table = tables.get(league);
            for (int place = 0; place < table.size(); place++) {
                societies.get(table.get(place)).money += 100 * table.size() - 100 * place;
            }
            lastFirst[league] = table.isEmpty() ? lastFirst[league] : table.get(0);
        }
        cameUp = NONE;
        if (!tables.get(0).isEmpty() && !tables.get(1).isEmpty()) {
            cameUp = tables.get(1).get(0);
            societies.get(cameUp).league = 0;
            societies.get(tables.get(0).get(tables.get(0).size() - 1)).league = 1;
        }
        beginYear();
        return cameUp;
    }

    private void beginYear() {
        for (int i = 0; i < societies.size(); i++) {
            Society fresh = new Society();
            fresh.league = societies.get(i).league;
            fresh.members = societies.get(i).members;
            fresh.money = societies.get(i).money;
            societies.set(i, fresh);
        }
        orders.forEach(List::clear);
        marches[0] = null;
        marches[1] = null;
    }

    private int about(int society, int what) {
        Society own = the(society);
        argument(among(what, 0, 8));
        int chosen = left(own).size() == 1 ? own.songs.indexOf(left(own).get(0)) : NONE;
        return new int[] {own.league, own.members, own.words, chosen, own.floats.size(), points(own), own.money,
            told(own.isIn), own.penalties.size()}[what];
    }

    private int notes(int society, int category) {
        Society own = the(society);
        argument(among(category, 0, 4));
        return together(own, category);
    }

    private int penaltyAt(int society, int number, int what) {
        Society own = the(society);
        index(among(number, 0, own.penalties.size() - 1));
        argument(among(what, 0, 2));
        return own.penalties.get(number)[what];
    }

    private int isDoubted(int judge, int society) {
        Society own = the(society);
        argument(among(judge, 0, 3));
        int high = 0;
        for (Map<Integer, Integer> notes : own.notes) {
            List<Integer> others = new ArrayList<>();
            notes.forEach((other, note) -> {
                if (other != judge) {
                    others.add(note);
                }
            });
            if (notes.containsKey(judge) && !others.isEmpty()) {
                int mean = others.stream().mapToInt(note -> note).sum() / others.size();
                high += notes.get(judge) - mean >= 15 ? 1 : 0;
            }
        }
        return told(high >= 3);
    }

    private int table(int league, int place) {
        index(place >= 0);
        argument(among(league, 0, 1));
        return place < ranked(league).size() ? ranked(league).get(place) : NONE;
    }
}
