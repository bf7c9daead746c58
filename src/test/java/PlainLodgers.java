import java.util.ArrayList;
import java.util.Arrays;
import java.util.HashMap;
import java.util.HashSet;
import java.util.List;
import java.util.Map;
import java.util.Set;
import java.util.TreeSet;
import java.util.regex.Matcher;
import java.util.regex.Pattern;

/** The document once more, slowly and by other means (the Java library, trees of ways), for ModelTest to compare with. */
final class PlainLodgers {
    private static final int NONE = -1, UNKNOWN = -101, OUTSIDE = -102, STATE = -103, FULL = -104;
    private static final Pattern GRAMMAR = Pattern.compile(
        "([lpsfg][0-9]){4};[0-5][0-5](,[0-5][0-5]){0,2};[0-5][0-5](,[0-5][0-5]){0,5}");
    private static final int[] SOUTHWARD = {-1, 0, 1, 0, 1};
    private static final int[] EASTWARD = {0, 1, 0, -1, 2};

    private static final class Seen {
        final int lodger;
        final int day;
        final boolean up;

        Seen(int lodger, int day, boolean up) {
            this.lodger = lodger;
            this.day = day;
            this.up = up;
        }
    }

    /** A SEA at some time: copied for an image, and for all that would be. */
    private static final class World {
        char[] kinds = new char[4];
        int[] till = new int[4];
        List<Integer> ships = new ArrayList<>();
        Set<Integer> rocks = new HashSet<>();
        Set<Integer> sailed = new TreeSet<>();
        int day = 0;
        boolean hired = false;
        int sails = 0;
        List<Seen> seen = new ArrayList<>();

        World copy() {
            World c = new World();
            c.kinds = kinds.clone();
            c.till = till.clone();
            c.ships = new ArrayList<>(ships);
            c.rocks = rocks;
            c.sailed = new TreeSet<>(sailed);
            c.day = day;
            c.hired = hired;
            c.sails = sails;
            c.seen = new ArrayList<>(seen);
            return c;
        }

        boolean up(int who, int on) {
            return who == 4 ? hired && on % 7 == 3 : up(kinds[who], on < till[who], on);
        }

        static boolean up(char kind, boolean ill, int on) {
            boolean poet = !ill && on % 2 != 0;
            return kind == 'f' || kind == 'l' && !ill || kind == 'p' && poet || kind == 's' && !ill && on % 3 > 0
                || kind == 'g' && (poet || on % 4 == 0);
        }

        Integer next(int cell, int by) {
            int row = cell / 6 + SOUTHWARD[by];
            int column = cell % 6 + EASTWARD[by];
            boolean inside = row >= 0 && row < 6 && column >= 0 && column < 6;
            return inside && !rocks.contains(6 * row + column) ? 6 * row + column : null;
        }

        boolean may(int ship, int by) {
            return !sailed.contains(ship) && up(by, day) && next(ships.get(ship), by) != null;
        }

        Set<Integer> places(int ship, int last) {
            Set<Integer> at = new HashSet<>(Set.of(ships.get(ship)));
            for (int d = 0; d <= last; d++) {
                Set<Integer> then = new HashSet<>(at);
                for (int by = 0; by < 5 && !(d == 0 && sailed.contains(ship)); by++) {
                    for (int cell : at) {
                        Integer to = up(by, day + d) ? next(cell, by) : null;
                        if (to != null) {
                            then.add(to);
                        }
                    }
                }
                at = then;
            }
            return at;
        }

        int soon(int ship, int cell) {
            if (ships.get(ship) == cell) {
                return 0;
            }
            Set<Integer> at = Set.of();
            for (int d = 0; d <= 40 && !at.contains(cell); d++) {
                at = places(ship, d);
                if (at.contains(cell)) {
                    return d + 1;
                }
            }
            return NONE;
        }

        /** The first by numbers of the ways of so many days, as a text of digits; null, if there is none. */
        String way(int ship, int from, int cell, int d, int days, Map<Integer, Boolean> dead) {
            if (d == days) {
                return from == cell ? "" : null;
            }
            if (dead.containsKey(100 * from + d)) {
                return null;
            }
            for (int by = 0; by <= 5; by++) {
                boolean free = by == 5 || up(by, day + d) && !(d == 0 && sailed.contains(ship));
                Integer to = !free ? null : by == 5 ? Integer.valueOf(from) : next(from, by);
                String rest = to == null ? null : way(ship, to, cell, d + 1, days, dead);
                if (rest != null) {
                    return by + rest;
                }
            }
            dead.put(100 * from + d, true);
            return null;
        }

        int meet(int a, int b) {
            if (ships.get(a).equals(ships.get(b))) {
                return 0;
            }
            for (int d = 0; d <= 40; d++) {
                Set<Integer> both = places(a, d);
                both.retainAll(places(b, d));
                if (!both.isEmpty()) {
                    return d + 1;
                }
            }
            return NONE;
        }

        int kindsOf(int lodger) {
            int bits = 0;
            for (int kind = 0; kind < 5; kind++) {
                boolean fits = true;
                for (Seen s : seen) {
                    int on = day + s.day;
                    fits &= s.lodger != lodger || up("lpsfg".charAt(kind), on < till[lodger], on) == s.up;
                }
                bits += fits ? 1 << kind : 0;
            }
            return bits;
        }

        int look(int lodger) {
            int bits = kindsOf(lodger);
            int[] worst = new int[21];
            for (int d = 0; d <= 20; d++) {
                int[] left = new int[2];
                for (int kind = 0; kind < 5; kind++) {
                    boolean isUp = up("lpsfg".charAt(kind), day + d < till[lodger], day + d);
                    left[isUp ? 1 : 0] += bits >> kind & 1;
                }
                worst[d] = Math.max(left[0], left[1]);
            }
            int least = Arrays.stream(worst).min().getAsInt();
            for (int d = 0; d <= 20 && bits != 0; d++) {
                if (worst[d] == least) {
                    return d;
                }
            }
            return NONE;
        }
    }

    private String page = "";
    private World world = null;
    private World kept = null;
    private int read = 0;

    /** Answers a call by its name; a boolean is told as 1 or 0. */
    long answer(String name, int a, int b, int c) {
        switch (name) {
            case "letter": return letter(a);
            case "blank": return blank();
            case "fault": return fault();
            case "sea": return sea();
            case "lodger": return lodger(a, b);
            case "as": return as(a, b);
            case "ship": return ship(a, b);
            case "cell": return cell(a, b);
            case "sail": return sail(a, b);
            case "day": return day();
            case "ail": return ail(a, b);
            case "let": return let(a, b);
            case "hire": return hire();
            case "can": return can(a, b, c);
            case "soon": return soon(a, b, c);
            case "meet": return meet(a, b);
            case "needed": return needed(a, b);
            case "brick": return brick(a, b);
            case "aside": return aside(a, b);
            case "see": return see(a, b, c == 1);
            case "forget": return forget();
            case "drifts": return drifts(a, b, c);
            case "image": return image();
            case "restore": return restore();
            case "count": return count(a);
            case "digest": return digest();
            default: throw new IllegalArgumentException(name);
        }
    }

    private boolean noLodger(int lodger) {
        return world == null || lodger < 0 || lodger > 3;
    }

    private boolean noShip(int ship) {
        return world == null || ship < 0 || ship >= world.ships.size();
    }

    private boolean noCell(int cell) {
        return world == null || cell < 0 || cell > 35;
    }

    private int letter(int code) {
        if (code < 1 || code > 126) {
            return OUTSIDE;
        }
        if (page.length() == 40) {
            return FULL;
        }
        page += (char) code;
        return page.length();
    }

    private int blank() {
        int had = page.length();
        page = "";
        return had;
    }

    private static boolean begins(String text) {
        Matcher m = GRAMMAR.matcher(text);
        return (m.matches() || m.hitEnd()) && !rocksClash(text);
    }

    private static boolean rocksClash(String text) {
        String[] parts = text.split(";");
        if (parts.length < 3) {
            return false;
        }
        Set<String> taken = new HashSet<>(Arrays.asList(parts[1].split(",")));
        for (String rock : parts[2].split(",")) {
            if (rock.length() == 2 && !taken.add(rock)) {
                return true;
            }
        }
        return false;
    }

    private int fault() {
        for (int n = 1; n <= page.length(); n++) {
            if (!begins(page.substring(0, n))) {
                return n - 1;
            }
        }
        return page.length();
    }

    private int sea() {
        if (!GRAMMAR.matcher(page).matches() || rocksClash(page)) {
            return STATE;
        }
        world = new World();
        kept = null;
        for (int i = 0; i < 4; i++) {
            world.kinds[i] = page.charAt(2 * i);
            world.till[i] = page.charAt(2 * i + 1) - '0';
        }
        String[] parts = page.split(";");
        for (String ship : parts[1].split(",")) {
            world.ships.add(Integer.parseInt(ship, 6));
        }
        for (String rock : parts[2].split(",")) {
            world.rocks.add(Integer.parseInt(rock, 6));
        }
        page = "";
        read++;
        return world.ships.size();
    }

    private int lodger(int lodger, int what) {
        if (noLodger(lodger)) {
            return UNKNOWN;
        }
        switch (what) {
            case 0: return "lpsfg".indexOf(world.kinds[lodger]);
            case 1: return Math.max(0, world.till[lodger] - world.day);
            case 2: return world.up(lodger, world.day) ? 1 : 0;
            case 3: return world.kindsOf(lodger);
            case 4: return world.look(lodger);
            case 5:
                int ups = 0;
                for (int d = 0; d < 28; d++) {
                    ups += world.up(lodger, world.day + d) ? 1 : 0;
                }
                return ups;
            default: return OUTSIDE;
        }
    }

    private int as(int lodger, int kind) {
        if (noLodger(lodger)) {
            return UNKNOWN;
        }
        if (kind < 0 || kind > 4) {
            return OUTSIDE;
        }
        int own = lodger(lodger, 0);
        return kind == 0 || kind == own || own == 4 && kind == 1 ? lodger : NONE;
    }

    private int ship(int ship, int what) {
        if (noShip(ship)) {
            return UNKNOWN;
        }
        switch (what) {
            case 0: return world.ships.get(ship);
            case 1: return world.sailed.contains(ship) ? 1 : 0;
            case 2:
                int bits = 0;
                for (int by = 0; by < 5; by++) {
                    bits += world.may(ship, by) ? 1 << by : 0;
                }
                return bits;
            default: return OUTSIDE;
        }
    }

    private int cell(int cell, int what) {
        if (noCell(cell)) {
            return UNKNOWN;
        }
        if (what == 0) {
            return world.rocks.contains(cell) ? 1 : 0;
        }
        int bits = 0;
        for (int ship = 0; ship < world.ships.size(); ship++) {
            bits += world.ships.get(ship) == cell ? 1 << ship : 0;
        }
        return what == 1 ? bits : OUTSIDE;
    }

    private int sail(int ship, int by) {
        if (noShip(ship) || by < 0 || by > 4) {
            return UNKNOWN;
        }
        if (!world.may(ship, by)) {
            return STATE;
        }
        if (world.sails == 999) {
            return FULL;
        }
        world.ships.set(ship, world.next(world.ships.get(ship), by));
        world.sailed.add(ship);
        world.sails++;
        return world.ships.get(ship);
    }

    private int day() {
        if (world == null) {
            return STATE;
        }
        if (world.day == 999) {
            return FULL;
        }
        world.sailed.clear();
        return ++world.day;
    }

    private int ail(int lodger, int days) {
        if (noLodger(lodger)) {
            return UNKNOWN;
        }
        if (days < 0 || days > 40) {
            return OUTSIDE;
        }
        int was = lodger(lodger, 1);
        world.till[lodger] = world.day + days;
        return was;
    }

    private int let(int lodger, int kind) {
        if (noLodger(lodger)) {
            return UNKNOWN;
        }
        if (kind < 0 || kind > 4) {
            return OUTSIDE;
        }
        int was = lodger(lodger, 0);
        world.kinds[lodger] = "lpsfg".charAt(kind);
        return was;
    }

    private int hire() {
        if (world == null) {
            return STATE;
        }
        world.hired ^= true;
        return world.hired ? 1 : 0;
    }

    private int can(int ship, int cell, int day) {
        if (noShip(ship) || noCell(cell)) {
            return UNKNOWN;
        }
        return day < 0 || day > 40 ? OUTSIDE : world.places(ship, day).contains(cell) ? 1 : 0;
    }

    private int soon(int ship, int cell, int what) {
        if (noShip(ship) || noCell(cell)) {
            return UNKNOWN;
        }
        if (what != 0 && (what < 10 || what > 17)) {
            return OUTSIDE;
        }
        int days = world.soon(ship, cell);
        if (what == 0 || days == NONE) {
            return days;
        }
        String way = world.way(ship, world.ships.get(ship), cell, 0, days, new HashMap<>());
        return what - 10 < way.length() ? way.charAt(what - 10) - '0' : NONE;
    }

    private int meet(int a, int b) {
        return noShip(a) || noShip(b) || a == b ? UNKNOWN : world.meet(a, b);
    }

    private int needed(int ship, int cell) {
        if (noShip(ship) || noCell(cell)) {
            return UNKNOWN;
        }
        int[] days = new int[4];
        for (int lodger = 0; lodger < 4; lodger++) {
            World w = world.copy();
            w.till[lodger] = Math.max(w.till[lodger], w.day + 7);
            days[lodger] = w.soon(ship, cell) == NONE ? 99 : w.soon(ship, cell);
        }
        int greatest = Arrays.stream(days).max().getAsInt();
        for (int lodger = 0; lodger < 3; lodger++) {
            if (days[lodger] == greatest) {
                return lodger;
            }
        }
        return 3;
    }

    private int brick(int ship, int cell) {
        if (noShip(ship) || noCell(cell)) {
            return UNKNOWN;
        }
        int now = world.soon(ship, cell) == NONE ? 99 : world.soon(ship, cell);
        int[] days = new int[4];
        for (int lodger = 0; lodger < 4; lodger++) {
            World w = world.copy();
            w.till[lodger] = 0;
            days[lodger] = w.soon(ship, cell) == NONE ? 99 : w.soon(ship, cell);
        }
        int least = Arrays.stream(days).min().getAsInt();
        for (int lodger = 0; lodger < 4; lodger++) {
            if (days[lodger] == least && least < now) {
                return lodger;
            }
        }
        return NONE;
    }

    private int aside(int ship, int day) {
        if (noShip(ship)) {
            return UNKNOWN;
        }
        if (day < 0 || day > 20) {
            return OUTSIDE;
        }
        World with = world.copy();
        with.hired = true;
        World without = world.copy();
        without.hired = false;
        Set<Integer> alone = with.places(ship, day);
        alone.removeAll(without.places(ship, day));
        return alone.size();
    }

    private int see(int lodger, int day, boolean up) {
        if (noLodger(lodger)) {
            return UNKNOWN;
        }
        if (day < 0 || day > 20) {
            return OUTSIDE;
        }
        if (world.seen.size() == 6) {
            return FULL;
        }
        world.seen.add(new Seen(lodger, day, up));
        return world.seen.size();
    }

    private int forget() {
        int was = count(8);
        if (world != null) {
            world.seen.clear();
        }
        return was;
    }

    private int drifts(int days, int seed, int what) {
        if (days < 1 || days > 60 || seed < 0 || what < 0 || what > 2) {
            return OUTSIDE;
        }
        if (world == null) {
            return STATE;
        }
        World w = world.copy();
        long s = seed;
        int sails = 0;
        for (int d = 0; d < days; d++) {
            w.sailed.clear();
            for (int ship = 0; ship < w.ships.size(); ship++) {
                s = (1103515245L * s + 12345) % (1L << 31);
                int by = (int) (s / 65536 % 5);
                if (w.may(ship, by)) {
                    w.ships.set(ship, w.next(w.ships.get(ship), by));
                    sails++;
                }
            }
            w.day++;
        }
        return what == 0 ? sails : what == 1 ? w.ships.get(0) : (int) s;
    }

    private int image() {
        if (world == null) {
            return STATE;
        }
        kept = world.copy();
        return world.day;
    }

    private int restore() {
        if (kept == null) {
            return STATE;
        }
        world = kept.copy();
        return world.day;
    }

    private int count(int what) {
        World w = world == null ? new World() : world;
        int ups = 0;
        int ills = 0;
        for (int lodger = 0; lodger < 4 && world != null; lodger++) {
            ups += lodger(lodger, 2);
            ills += lodger(lodger, 1) > 0 ? 1 : 0;
        }
        int[] all = {w.ships.size(), w.rocks.size(), w.day, w.hired ? 1 : 0, ups, ills, w.sailed.size(), w.sails,
            w.seen.size(), page.length(), read};
        return what < 0 || what > 10 ? OUTSIDE : all[what];
    }

    private long digest() {
        List<Integer> told = new ArrayList<>();
        for (int lodger = 0; lodger < 4 && world != null; lodger++) {
            for (int what = 0; what < 6; what++) {
                told.add(lodger(lodger, what));
            }
        }
        for (int ship = 0; !noShip(ship); ship++) {
            told.addAll(List.of(ship(ship, 0), ship(ship, 1), ship(ship, 2), soon(ship, 0, 0), soon(ship, 0, 10),
                soon(ship, 35, 0), soon(ship, 35, 10), needed(ship, 14), brick(ship, 14), aside(ship, 9)));
        }
        for (int cell = 0; !noCell(cell); cell++) {
            told.add(cell(cell, 0));
        }
        page.chars().forEach(told::add);
        for (int what = 0; what <= 10; what++) {
            told.add(count(what));
        }
        long h = 1229;
        for (int number : told) {
            h = 31 * h + number;
        }
        return h;
    }
}
