import java.util.ArrayList;
import java.util.Comparator;
import java.util.List;
import java.util.regex.Matcher;
import java.util.regex.Pattern;

/**
 * The document once more, in another form and with the whole Java library: who waits stands in a list in the order
 * of coming, and what is asked goes by whole copies of the world. ModelTest holds the class against it.
 */
final class Model {
    private static final int BAD = -1, NO = -2, FULL = -3, NONE = -4;
    private static final Pattern ITEM = Pattern.compile(
        "\\G(?:c(\\d\\d?),(\\d\\d?),(\\d\\d?),(\\d\\d?)|s(\\d\\d?),(\\d\\d?)|r(\\d\\d?));");

    private enum State { IDLE, WAITS, SERVED, THROUGH, GAVE_UP }

    private static final class Who {
        int number, kind, calls, patience, worth;
        State state = State.IDLE;
        int waited;
        int until;
        boolean again;

        Who copy() {
            Who other = new Who();
            other.number = number;
            other.kind = kind;
            other.calls = calls;
            other.patience = patience;
            other.worth = worth;
            other.state = state;
            other.waited = waited;
            other.until = until;
            other.again = again;
            return other;
        }
    }

    private static final class World {
        final List<Who> all = new ArrayList<>();
        final List<Who> queue = new ArrayList<>();
        int minute, serve = 1, each = 5, rule;

        World copy() {
            World other = new World();
            for (Who who : all) {
                other.all.add(who.copy());
            }
            for (Who who : queue) {
                other.queue.add(other.all.get(who.number));
            }
            other.minute = minute;
            other.serve = serve;
            other.each = each;
            other.rule = rule;
            return other;
        }

        /** Those who wait, the NEXT one first. */
        List<Who> order() {
            List<Who> order = new ArrayList<>(queue);
            if (rule == 1) {
                java.util.Collections.reverse(order);
            } else if (rule == 2) {
                order.sort(Comparator.comparingInt(who -> -who.worth));
            }
            return order;
        }

        long bears(Who who) {
            int ahead = order().indexOf(who);
            return switch (who.kind) {
                case 1 -> ahead > 1 ? who.patience : Long.MAX_VALUE;
                case 2 -> who.patience + who.patience;
                case 3 -> ahead >= who.patience ? 1 : Math.max(1, who.patience - ahead);
                default -> who.patience;
            };
        }

        void come(Who who) {
            who.again = false;
            who.waited = 0;
            who.state = State.WAITS;
            queue.add(who);
        }

        World minutes(int n) {
            for (int i = 0; i < n; i++) {
                minute();
            }
            return this;
        }

        private void minute() {
            List<Who> again = all.stream().filter(who -> who.again).toList();
            all.stream().filter(who -> who.state == State.IDLE && !who.again && who.calls == minute).forEach(this::come);
            again.forEach(this::come);
            all.stream().filter(who -> who.state == State.SERVED && who.until <= minute)
                .forEach(who -> who.state = State.THROUGH);
            while (!queue.isEmpty() && in(State.SERVED) < serve) {
                Who next = order().get(0);
                queue.remove(next);
                next.state = State.SERVED;
                next.until = minute + each;
            }
            queue.forEach(who -> who.waited++);
            List<Who> enough = queue.stream().filter(who -> who.waited >= bears(who)).toList();
            enough.forEach(this::giveUp);
            minute++;
        }

        void giveUp(Who who) {
            queue.remove(who);
            who.state = State.GAVE_UP;
        }

        int in(State state) {
            return (int) all.stream().filter(who -> who.state == state).count();
        }

        boolean hang(int c) {
            boolean can = all.get(c).state == State.WAITS;
            if (can) {
                giveUp(all.get(c));
            }
            return can;
        }

        boolean recall(int c) {
            Who who = all.get(c);
            boolean can = who.state == State.THROUGH || who.state == State.GAVE_UP;
            if (can) {
                who.state = State.IDLE;
                who.again = true;
            }
            return can;
        }

        State after(int n, int c) {
            return copy().minutes(n).all.get(c).state;
        }

        int taken(int c, int most) {
            for (int n = 0; n <= most; n++) {
                State state = after(n, c);
                if (state == State.SERVED || state == State.THROUGH) {
                    return n;
                }
            }
            return NONE;
        }

        int lost() {
            return copy().minutes(60).in(State.GAVE_UP) - in(State.GAVE_UP);
        }
    }

    private record Sight(int c, int t, boolean gave) { }

    private String text = "";
    private World world;
    private final List<World> undo = new ArrayList<>();
    private final List<World> kept = new ArrayList<>();
    private final List<Sight> sights = new ArrayList<>();

    Model() {
        text = "c0,0,6,10;c1,0,4,25;c2,1,3,8;c3,2,9,40;c0,2,5,12;c1,6,2,30;c0,9,3,5;s1,4;r0;";
        lay();
        text = "";
    }

    int write(int letter) {
        if (letter < 32 || letter > 126) {
            return BAD;
        }
        if (text.length() >= 200) {
            return FULL;
        }
        text += (char) letter;
        return text.length();
    }

    int wipe() {
        int was = text.length();
        text = "";
        return was;
    }

    int fault() {
        return read(new World());
    }

    private int read(World into) {
        Matcher matcher = ITEM.matcher(text);
        int place = 0;
        while (place < text.length()) {
            if (!matcher.find(place) || !item(matcher, into)) {
                return place;
            }
            place = matcher.end();
        }
        return NONE;
    }

    private static boolean item(Matcher m, World into) {
        if (m.group(1) != null) {
            Who who = new Who();
            who.number = into.all.size();
            who.kind = Integer.parseInt(m.group(1));
            who.calls = Integer.parseInt(m.group(2));
            who.patience = Integer.parseInt(m.group(3));
            who.worth = Integer.parseInt(m.group(4));
            into.all.add(who);
            return into.all.size() <= 8 && who.kind < 4 && who.calls <= 40 && who.patience >= 1 && who.patience <= 30
                && who.worth <= 60;
        }
        if (m.group(5) != null) {
            into.serve = Integer.parseInt(m.group(5));
            into.each = Integer.parseInt(m.group(6));
            return into.serve >= 1 && into.serve <= 4 && into.each >= 1 && into.each <= 20;
        }
        into.rule = Integer.parseInt(m.group(7));
        return into.rule <= 2;
    }

    int lay() {
        World laid = new World();
        if (read(laid) != NONE || laid.all.isEmpty()) {
            return NO;
        }
        world = laid;
        undo.clear();
        kept.clear();
        sights.clear();
        return laid.all.size();
    }

    private boolean no(int c) {
        return c < 0 || c >= world.all.size();
    }

    private static boolean out(int x, int least, int most) {
        return x < least || x > most;
    }

    int caller(int c, int what) {
        if (no(c) || out(what, 0, 6)) {
            return BAD;
        }
        Who who = world.all.get(c);
        int bears = NONE;
        if (who.state == State.WAITS && world.bears(who) < 1000) {
            bears = (int) world.bears(who);
        }
        return new int[] {who.kind, who.calls, who.patience, who.worth, who.state.ordinal(), who.waited, bears}[what];
    }

    private void done() {
        undo.add(world.copy());
        if (undo.size() > 8) {
            undo.remove(0);
        }
    }

    int pass(int n) {
        if (out(n, 1, 40)) {
            return BAD;
        }
        if (world.minute + n > 999) {
            return NO;
        }
        done();
        return world.minutes(n).minute;
    }

    int hang(int c) {
        if (no(c)) {
            return BAD;
        }
        World was = world.copy();
        if (!world.hang(c)) {
            return NO;
        }
        World now = world;
        world = was;
        done();
        world = now;
        return world.all.get(c).waited;
    }

    int recall(int c) {
        if (no(c)) {
            return BAD;
        }
        World was = world.copy();
        if (!world.recall(c)) {
            return NO;
        }
        World now = world;
        world = was;
        done();
        world = now;
        return was.all.get(c).state == State.THROUGH ? 1 : 0;
    }

    int staff(int more) {
        if (out(more, 0, 1)) {
            return BAD;
        }
        if (world.serve == (more == 1 ? 4 : 1)) {
            return NO;
        }
        done();
        world.serve += 2 * more - 1;
        return world.serve;
    }

    int rule(int r) {
        if (out(r, 0, 2)) {
            return BAD;
        }
        if (world.rule == r) {
            return NO;
        }
        done();
        int was = world.rule;
        world.rule = r;
        return was;
    }

    int undo() {
        if (undo.isEmpty()) {
            return NO;
        }
        world = undo.remove(undo.size() - 1);
        return undo.size();
    }

    int behind(int n, int c) {
        return out(n, 0, 60) || no(c) ? BAD : world.after(n, c).ordinal();
    }

    int taken(int c) {
        return no(c) ? BAD : world.taken(c, 60);
    }

    int left(int c) {
        if (no(c)) {
            return BAD;
        }
        for (int n = 0; n <= 60; n++) {
            if (world.after(n, c).ordinal() >= 3) {
                return n;
            }
        }
        return NONE;
    }

    int number(int c) {
        if (no(c)) {
            return BAD;
        }
        int place = world.order().indexOf(world.all.get(c));
        return place < 0 ? NO : place;
    }

    int again(int c, int what) {
        if (no(c) || out(what, 0, 1)) {
            return BAD;
        }
        if (world.all.get(c).state != State.WAITS) {
            return NO;
        }
        int[] best = {NONE, NONE};
        for (int d = 20; d >= 0; d--) {
            World trial = world.copy();
            trial.hang(c);
            trial.minutes(d).recall(c);
            int taken = trial.taken(c, 60 - d);
            if (taken >= 0 && (best[0] < 0 || d + taken <= best[1])) {
                best = new int[] {d, d + taken};
            }
        }
        return best[what];
    }

    int best(int what) {
        if (out(what, 0, 1)) {
            return BAD;
        }
        int[] best = {0, -1};
        for (int r = 0; r < 3; r++) {
            World trial = world.copy();
            trial.rule = r;
            int worth = 0;
            for (Who who : world.all) {
                if (who.state.ordinal() < 2 && trial.taken(who.number, 60) >= 0) {
                    worth += who.worth;
                }
            }
            if (worth > best[1]) {
                best = new int[] {r, worth};
            }
        }
        return best[what];
    }

    int needed() {
        for (int s = 1; s <= 4; s++) {
            World trial = world.copy();
            trial.serve = s;
            if (trial.lost() == 0) {
                return s;
            }
        }
        return NONE;
    }

    int lost() {
        return world.lost();
    }

    int helps(int what) {
        if (out(what, 0, 1)) {
            return BAD;
        }
        int[] best = {NONE, NONE};
        for (int c = world.all.size() - 1; c >= 0; c--) {
            World trial = world.copy();
            if (trial.hang(c)) {
                int others = trial.lost();
                if (best[0] < 0 || others <= best[1]) {
                    best = new int[] {c, others};
                }
            }
        }
        return best[what];
    }

    int longest(int what) {
        if (out(what, 0, 1)) {
            return BAD;
        }
        World then = world.copy().minutes(60);
        int[] best = {NONE, NONE};
        for (Who who : world.all) {
            int waited = then.all.get(who.number).waited;
            if (who.state.ordinal() < 2 && waited > best[1]) {
                best = new int[] {who.number, waited};
            }
        }
        return best[what];
    }

    int seen(int c, int t, int gave) {
        if (no(c) || out(t, 1, 40) || out(gave, 0, 1)) {
            return BAD;
        }
        if (sights.size() == 6) {
            return FULL;
        }
        sights.add(new Sight(c, t, gave == 1));
        return sights.size();
    }

    int forget() {
        int many = sights.size();
        sights.clear();
        return many;
    }

    private boolean so(World trial, int c) {
        return sights.stream().filter(sight -> sight.c == c)
            .allMatch(sight -> (trial.after(sight.t, c) == State.GAVE_UP) == sight.gave);
    }

    int bears(int c, int what) {
        if (no(c) || out(what, 0, 1)) {
            return BAD;
        }
        List<Integer> fit = new ArrayList<>();
        for (int p = 1; p <= 30; p++) {
            World trial = world.copy();
            trial.all.get(c).patience = p;
            if (so(trial, c)) {
                fit.add(p);
            }
        }
        return what == 0 ? fit.size() : fit.isEmpty() ? NONE : fit.get(0);
    }

    int kinds(int c) {
        if (no(c)) {
            return BAD;
        }
        int bits = 0;
        for (int k = 0; k < 4; k++) {
            World trial = world.copy();
            trial.all.get(c).kind = k;
            bits += so(trial, c) ? 1 << k : 0;
        }
        return bits;
    }

    /** Goes down the tree of who hangs up: the weight, of ten to the power of how many could. */
    private static long weight(World trial, int c, int x, int from) {
        for (int other = from; other < trial.all.size(); other++) {
            if (other != c && trial.all.get(other).state == State.WAITS) {
                World hung = trial.copy();
                hung.hang(other);
                return x * weight(hung, c, x, other + 1) + (10 - x) * weight(trial, c, x, other + 1);
            }
        }
        State end = trial.after(60, c);
        return end == State.SERVED || end == State.THROUGH ? 1 : 0;
    }

    int likely(int c, int x, int part) {
        if (no(c) || out(x, 0, 10) || out(part, 0, 1)) {
            return BAD;
        }
        long above = weight(world, c, x, 0);
        long below = 1;
        for (Who who : world.queue) {
            below *= who.number == c ? 1 : 10;
        }
        for (int prime : new int[] {2, 5, 3, 7}) {
            while (above % prime == 0 && below % prime == 0) {
                above /= prime;
                below /= prime;
            }
        }
        return (int) (part == 0 ? above : above == 0 ? 1 : below);
    }

    int day(int z, int n, int what) {
        if (out(z, 0, 9999) || out(n, 1, 60) || out(what, 0, 2)) {
            return BAD;
        }
        World trial = world.copy();
        for (int i = 0; i < n; i++) {
            java.math.BigInteger x = java.math.BigInteger.valueOf(7919L * z + 6151L * i + 1L);
            int draw = x.pow(2).mod(java.math.BigInteger.valueOf(65521)).intValue() >> 1;
            int who = draw % trial.all.size();
            switch ((draw >> 3) % 6) {
                case 0 -> trial.hang(who);
                case 1 -> trial.recall(who);
                case 2 -> trial.serve += trial.serve < 4 ? 1 : 0;
                case 3 -> trial.serve -= trial.serve > 1 ? 1 : 0;
                default -> { }
            }
            trial.minutes(1);
        }
        int worth = trial.all.stream().filter(who -> who.state == State.THROUGH).mapToInt(who -> who.worth).sum();
        return what == 2 ? worth : trial.in(what == 0 ? State.THROUGH : State.GAVE_UP);
    }

    int keep() {
        if (kept.size() == 2) {
            return FULL;
        }
        kept.add(world.copy());
        return kept.size();
    }

    int back() {
        if (kept.isEmpty()) {
            return NO;
        }
        world = kept.remove(kept.size() - 1);
        undo.clear();
        return kept.size();
    }

    int count(int what) {
        return switch (what) {
            case 0 -> world.all.size();
            case 1 -> world.minute;
            case 2, 3, 4, 5 -> world.in(State.values()[what - 1]);
            case 6 -> world.serve;
            case 7 -> world.each;
            case 8 -> world.rule;
            case 9 -> sights.size();
            case 10 -> undo.size();
            case 11 -> kept.size();
            case 12 -> text.length();
            default -> BAD;
        };
    }
}
