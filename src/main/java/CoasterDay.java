import java.util.Arrays;

/** A coaster's day, as the project's document tells it. Words in capitals are the document's. */
public final class CoasterDay {
    public static final int NONE = -1;

    private static final int NO_SUCH = -2;
    private static final int BAD_NUMBER = -3;
    private static final int FULL = -4;
    private static final int NOT_NOW = -5;
    private static final int ROW_MISSING = -6;
    private static final int ROW_SHORT = -7;
    private static final int FAULT_BASE = -10;
    private static final int NOT_FELT = -100000;

    private static final int MOST_POINTS = 60;
    private static final int MOST_BLOCKS = 6;
    private static final int MOST_WEIGHT = 20;
    private static final int MOST_TRAINS = 10;
    private static final int MOST_BEAT = 999;
    private static final int MOST_DRAG = 50;
    private static final int MOST_TENTHS = 20;
    private static final int WORN_DRAG = 10;
    private static final int LOGGED_TRAINS = 4;
    private static final int ALL_WORN_NONE = 9;
    private static final int HOURS_A_DAY = 24;

    private final Tokens tape = new Tokens();
    private final TrackReader trackReader = new TrackReader();
    private final RuleReader ruleReader = new RuleReader();
    private final Track newTrack = new Track();
    private final Rules newRules = new Rules();
    private final Day day = new Day();
    private final Day[] images = {new Day(), new Day()};
    private final NumberRow[] rows = {new NumberRow(), new NumberRow(), new NumberRow(), new NumberRow()};
    private final Ride ride = new Ride();
    private final Search search = new Search();
    private final Packing packing = new Packing();
    private final int[] blockTimes = new int[MOST_BLOCKS];
    private final int[] blockLeft = new int[MOST_BLOCKS];

    public CoasterDay() {
    }

    // ---- track

    public int feed(int a, int b, int c, int d, int e) {
        if (!tape.hasRoom(20)) {
            return FULL;
        }
        tape.addFour(a);
        tape.addFour(b);
        tape.addFour(c);
        tape.addFour(d);
        tape.addFour(e);
        return tape.held();
    }

    public int text(int what, int n) {
        if (outside(what, 0, 1)) {
            return NO_SUCH;
        }
        if (outside(n, 0, tape.held())) {
            return BAD_NUMBER;
        }
        if (what == 1 && noTrack()) {
            return NOT_NOW;
        }
        tape.begin(n);
        if (what == 0) {
            trackReader.read(tape, newTrack);
        } else {
            ruleReader.read(tape, day.track.blocks(), newRules);
        }
        tape.empty();
        if (!tape.isSound()) {
            return FAULT_BASE - tape.faultKind();
        }
        return what == 0 ? tellTrack() : tellRules();
    }

    private int tellTrack() {
        day.tellTrack(newTrack);
        ride.forget();
        return newTrack.points();
    }

    private int tellRules() {
        day.rules.copyFrom(newRules);
        return newRules.size();
    }

    public int fault(int what) {
        switch (what) {
            case 0:
                return tape.faultKind();
            case 1:
                return tape.faultPlace();
            default:
                return NONE;
        }
    }

    public int run(int weight, int wind, int cold, int what) {
        int refused = refusal(outside(what, 0, 5), badWeight(weight) || outside(wind, 0, 99) || outside(cold, 0, 99));
        if (refused != 0) {
            return refused;
        }
        passBy(weight, wind, cold);
        return ride.tell(what);
    }

    public int speed(int weight, int point) {
        int refused = refusal(noSuchPoint(point), badWeight(weight));
        if (refused != 0) {
            return refused;
        }
        passBy(weight, 0, 0);
        return ride.firstPaceAt(point);
    }

    public int point(int point, int what) {
        int refused = refusal(noSuchPoint(point) || outside(what, 0, 1), false);
        if (refused != 0) {
            return refused;
        }
        return what == 0 ? day.track.height(point) : day.track.blockOf(point);
    }

    public int felt(int weight, int point, int seat) {
        boolean atAnEnd = !noTrack() && (point == 0 || point == day.track.points() - 1);
        int refused = refusal(noSuchPoint(point) || atAnEnd || badSeat(seat), badWeight(weight));
        if (refused != 0) {
            return refused;
        }
        passBy(weight, 0, 0);
        return feltNow(point, seat);
    }

    public int feels(int weight, int seat, boolean most) {
        int refused = refusal(badSeat(seat), badWeight(weight));
        if (refused != 0) {
            return refused;
        }
        passBy(weight, 0, 0);
        int best = NOT_FELT;
        for (int p = 1; p < day.track.points() - 1; p++) {
            int here = feltNow(p, seat);
            boolean further = most ? here > best : here < best;
            if (here != NOT_FELT && (best == NOT_FELT || further)) {
                best = here;
            }
        }
        return best;
    }

    /** FELT at a POINT by the latest RUN of ride. */
    private int feltNow(int point, int seat) {
        int pace = ride.firstPaceAt(point + seat);
        if (pace == NONE) {
            return NOT_FELT;
        }
        Track track = day.track;
        int bend = track.height(point - 1) + track.height(point + 1) - 2 * track.height(point);
        return 10 + pace * bend / 20;
    }

    public int odds(int from, int to, int calm, int storm, int cold) {
        boolean badWeights = badWeight(from) || badWeight(to) || from > to;
        boolean badWinds = outside(calm, 0, 99) || outside(storm, 0, 99) || calm > storm;
        int refused = refusal(false, badWeights || badWinds || outside(cold, 0, 99));
        if (refused != 0) {
            return refused;
        }
        int notOut = 0;
        for (int weight = from; weight <= to; weight++) {
            for (int wind = calm; wind <= storm; wind++) {
                if (!isOut(weight, wind, cold)) {
                    notOut++;
                }
            }
        }
        return notOut;
    }

    // ---- blocks

    public int row(int what, int trains, int lies, int i) {
        int refused = refusal(outside(what, 0, 1), badBlockBits(trains) || outside(lies, 0, 3));
        if (refused != 0) {
            return refused;
        }
        search.prepare(day.rules, day.track.blocks(), lies);
        if (!search.find(what == 0, trains)) {
            return NONE;
        }
        return i == NONE ? search.rowLength() : search.event(i);
    }

    public int leaves(int trains, int block) {
        int refused = refusal(noSuchBlock(block), badBlockBits(trains));
        if (refused != 0) {
            return refused;
        }
        search.prepare(day.rules, day.track.blocks(), 0);
        return search.mayLeave(trains, block) ? 1 : 0;
    }

    // ---- dispatch, log

    public int time(int weight, int block) {
        int refused = refusal(noSuchBlock(block), badWeight(weight));
        if (refused != 0) {
            return refused;
        }
        if (!takeTimes(weight) || outside(block, 0, blockTimes.length - 1)) {
            return NONE;
        }
        return blockTimes[block];
    }

    /** Puts TIMES of a WEIGHT into blockTimes; false: there are none. */
    private boolean takeTimes(int weight) {
        passBy(weight, 0, 0);
        if (!ride.isOut()) {
            return false;
        }
        Track track = day.track;
        for (int b = 0; b < track.blocks() && b < blockTimes.length; b++) {
            blockTimes[b] = ride.firstTicksAt(track.blockEnd(b)) - ride.firstTicksAt(track.blockStart(b));
        }
        return true;
    }

    public int holds(int weight, int n, int beat, int which, int late) {
        int refused = refusal(which != NONE && (which < 0 || which >= n),
            badWeight(weight) || badTrainCount(n) || badBeat(beat) || outside(late, 0, 999));
        if (refused != 0) {
            return refused;
        }
        return takeTimes(weight) ? holdsNow(n, beat, which, late) : NONE;
    }

    /** HOLDS by the TIMES in blockTimes. */
    private int holdsNow(int n, int beat, int which, int late) {
        int blocks = Math.min(day.track.blocks(), blockTimes.length);
        Arrays.fill(blockLeft, 0);
        int held = 0;
        for (int k = 0; k < n; k++) {
            int start = k * beat + (k == which ? late : 0);
            int now = Math.max(start, blockLeft[0]);
            for (int b = 0; b < blocks; b++) {
                int through = now + blockTimes[b];
                now = b + 1 < blocks ? Math.max(through, blockLeft[b + 1]) : through;
                if (now > through) {
                    held++;
                }
                blockLeft[b] = now;
            }
        }
        return held;
    }

    public int beat(int weight, int n, int late, int most) {
        int refused = refusal(false, badBeatQuestion(weight, n, late, most));
        if (refused != 0) {
            return refused;
        }
        return leastBeat(weight, n, late, most);
    }

    private boolean badBeatQuestion(int weight, int n, int late, int most) {
        return badWeight(weight) || badTrainCount(n) || outside(late, 0, 999) || outside(most, 0, 99);
    }

    private int leastBeat(int weight, int n, int late, int most) {
        if (!takeTimes(weight)) {
            return NONE;
        }
        for (int beat = 1; beat <= MOST_BEAT; beat++) {
            if (isBeatEnough(n, beat, late, most)) {
                return beat;
            }
        }
        return NONE;
    }

    private boolean isBeatEnough(int n, int beat, int late, int most) {
        for (int which = 0; which < n; which++) {
            if (holdsNow(n, beat, which, late) > most) {
                return false;
            }
        }
        return true;
    }

    public int log(int train, int weight, int ticks, int off) {
        int refused = refusal(badLoggedTrain(train), badWeight(weight) || badTicks(ticks) || outside(off, 0, 99));
        if (refused != 0) {
            return refused;
        }
        if (day.logged.isFull()) {
            return FULL;
        }
        return day.logged.add(train, weight, ticks, off) + 1;
    }

    public int fits(int i) {
        if (noTrack()) {
            return NOT_NOW;
        }
        int found = 0;
        for (int drag = 0; drag <= MOST_DRAG; drag++) {
            for (int worn = 0; worn <= LOGGED_TRAINS; worn++) {
                if (pairFits(drag, worn)) {
                    if (found == i) {
                        return 10 * drag + worn;
                    }
                    found++;
                }
            }
        }
        return i == NONE ? found : NONE;
    }

    /** Whether a PAIR FITS; worn is 0 for none, 1 for TRAIN 0 and so on. */
    private boolean pairFits(int drag, int worn) {
        Table logged = day.logged;
        for (int k = 0; k < logged.size(); k++) {
            boolean isWorn = logged.get(k, 0) + 1 == worn;
            int loss = lossBy(isWorn ? drag + WORN_DRAG : drag, logged.get(k, 1));
            if (!ticksFit(loss, logged.get(k, 2), logged.get(k, 3))) {
                return false;
            }
        }
        return true;
    }

    private boolean ticksFit(int loss, int due, int off) {
        int ticks = ride.ticksIfOut(day.track, loss);
        return ticks != NONE && Math.abs(ticks - due) <= off;
    }

    public int worn() {
        if (noTrack()) {
            return NOT_NOW;
        }
        int told = NONE;
        for (int drag = 0; drag <= MOST_DRAG; drag++) {
            for (int worn = 0; worn <= LOGGED_TRAINS; worn++) {
                if (pairFits(drag, worn)) {
                    if (told != NONE && told != worn) {
                        return NONE;
                    }
                    told = worn;
                }
            }
        }
        if (told == NONE) {
            return NONE;
        }
        return told == 0 ? ALL_WORN_NONE : told - 1;
    }

    // ---- stairs, tests, parts

    public int stair(int point) {
        int refused = refusal(noSuchPoint(point), day.stairs.find(0, point) != NONE);
        if (refused != 0) {
            return refused;
        }
        if (day.stairs.isFull()) {
            return FULL;
        }
        return day.stairs.add(point, 0, 0, 0) + 1;
    }

    public int walk(int point, int what) {
        int refused = refusal(noSuchPoint(point) || outside(what, 0, 1), false);
        if (refused != 0) {
            return refused;
        }
        if (day.stairs.size() == 0) {
            return NONE;
        }
        return what == 0 ? leastWalk(point, NONE) : nearestStair(point);
    }

    /** WALK from a POINT, where there is one STAIR more (NONE: no more); NONE: no STAIRS. */
    private int leastWalk(int point, int more) {
        int least = more == NONE ? NONE : day.track.walkBetween(point, more);
        for (int k = 0; k < day.stairs.size(); k++) {
            int length = day.track.walkBetween(point, day.stairs.get(k, 0));
            if (least == NONE || length < least) {
                least = length;
            }
        }
        return least;
    }

    private int nearestStair(int point) {
        int least = leastWalk(point, NONE);
        int nearest = NONE;
        for (int k = 0; k < day.stairs.size(); k++) {
            int stair = day.stairs.get(k, 0);
            boolean isLower = nearest == NONE || stair < nearest;
            if (isLower && day.track.walkBetween(point, stair) == least) {
                nearest = stair;
            }
        }
        return nearest;
    }

    public int worst(int what) {
        int refused = refusal(outside(what, 0, 1), false);
        if (refused != 0) {
            return refused;
        }
        return what == 0 ? greatestWalk(NONE) : bestStair();
    }

    private int greatestWalk(int more) {
        int greatest = NONE;
        for (int p = 0; p < day.track.points(); p++) {
            greatest = Math.max(greatest, leastWalk(p, more));
        }
        return greatest;
    }

    private int bestStair() {
        int best = 0;
        int least = greatestWalk(0);
        for (int p = 1; p < day.track.points(); p++) {
            int greatest = greatestWalk(p);
            if (greatest < least) {
                least = greatest;
                best = p;
            }
        }
        return best;
    }

    public int test(int covers, int cost) {
        if (outside(covers, 0, 4095) || outside(cost, 1, 99)) {
            return BAD_NUMBER;
        }
        return day.tests.addOr(FULL, covers, cost, 0);
    }

    public int cover(int set, int what) {
        if (outside(what, 0, 1)) {
            return NO_SUCH;
        }
        if (outside(set, 0, 4095)) {
            return BAD_NUMBER;
        }
        int best = cheapestCover(set);
        if (best == NONE) {
            return NONE;
        }
        return what == 0 ? day.tests.sum(1, best) : best;
    }

    /** COVER of a set as bits; it goes up, so that of like ones the least set stays. */
    private int cheapestCover(int set) {
        Table tests = day.tests;
        int best = NONE;
        int least = 0;
        for (int some = 0; some < 1 << tests.size(); some++) {
            if ((tests.union(0, some) & set) == set) {
                int cost = tests.sum(1, some);
                boolean isFewer = cost == least && Integer.bitCount(some) < Integer.bitCount(best);
                if (best == NONE || cost < least || isFewer) {
                    best = some;
                    least = cost;
                }
            }
        }
        return best;
    }

    public int part(int hours, int most) {
        if (outside(hours, 0, 9999) || outside(most, 1, 9999)) {
            return BAD_NUMBER;
        }
        return day.parts.addOr(FULL, hours, most, 0);
    }

    public int age(int hours) {
        if (outside(hours, 1, 9999)) {
            return BAD_NUMBER;
        }
        Table parts = day.parts;
        int over = 0;
        for (int k = 0; k < parts.size(); k++) {
            parts.set(k, 0, parts.get(k, 0) + hours);
            if (parts.get(k, 0) > parts.get(k, 1)) {
                over++;
            }
        }
        return over;
    }

    public int days(int part, int hours) {
        if (outside(part, 0, day.parts.size() - 1)) {
            return NO_SUCH;
        }
        if (badDayHours(hours)) {
            return BAD_NUMBER;
        }
        return daysLeft(part, hours);
    }

    private int daysLeft(int part, int hours) {
        int left = day.parts.get(part, 1) - day.parts.get(part, 0);
        return left <= 0 || hours <= 0 ? 0 : left / hours;
    }

    public int first(int hours) {
        if (badDayHours(hours)) {
            return BAD_NUMBER;
        }
        if (day.parts.size() == 0) {
            return NOT_NOW;
        }
        int soonest = 0;
        for (int k = 1; k < day.parts.size(); k++) {
            if (daysLeft(k, hours) < daysLeft(soonest, hours)) {
                soonest = k;
            }
        }
        return soonest;
    }

    // ---- more of the day

    public int restart(int weight, int point) {
        int refused = refusal(noSuchPoint(point), badWeight(weight));
        if (refused != 0) {
            return refused;
        }
        int loss = lossIn(weight, 0, 0);
        for (int pace = 0; pace <= 999; pace += Math.max(1, ride.slack())) {
            ride.go(day.track, loss, point, pace);
            if (ride.isOut()) {
                return pace;
            }
        }
        return NONE;
    }

    public int valley(int i) {
        if (noTrack()) {
            return NOT_NOW;
        }
        Track track = day.track;
        int found = 0;
        for (int p = 1; p < track.points() - 1; p++) {
            int height = track.height(p);
            if (height < track.height(p - 1) && height < track.height(p + 1)) {
                if (found == i) {
                    return p;
                }
                found++;
            }
        }
        return i == NONE ? found : NONE;
    }

    public int group(int size, int height) {
        if (outside(size, 1, 8) || badHeight(height)) {
            return BAD_NUMBER;
        }
        return day.groups.addOr(FULL, size, height, 0);
    }

    public int trains(int seats, int height, int i) {
        if (badSeats(seats) || badHeight(height)) {
            return BAD_NUMBER;
        }
        int riding = 0;
        for (int k = 0; k < day.groups.size(); k++) {
            if (day.groups.get(k, 1) >= height) {
                if (day.groups.get(k, 0) > seats) {
                    return NONE;
                }
                riding |= 1 << k;
            }
        }
        packing.pack(day.groups, riding, seats);
        return i == NONE ? packing.fewest(riding) : packing.trainAt(riding, seats, i);
    }

    public int cross(int weight, int point, int n, int beat, int first, int every, int near) {
        int refused = refusal(noSuchPoint(point),
            badWeight(weight) || badTrainCount(n) || badBeat(beat) || badOthers(first, every, near));
        if (refused != 0) {
            return refused;
        }
        passBy(weight, 0, 0);
        int comes = ride.firstTicksAt(point);
        return comes == NONE ? NONE : nearOnes(comes, n, beat, first, every, near);
    }

    private int nearOnes(int comes, int n, int beat, int first, int every, int near) {
        int found = 0;
        for (int k = 0; k < n; k++) {
            if (isNear(comes + k * beat, first, every, near)) {
                found++;
            }
        }
        return found;
    }

    private boolean isNear(int tick, int first, int every, int near) {
        if (tick <= first) {
            return first - tick <= near;
        }
        if (every < 1) {
            return false;
        }
        int since = (tick - first) % every;
        return since <= near || every - since <= near;
    }

    public int clear(int weight, int point, int n, int first, int every, int near) {
        int refused = refusal(noSuchPoint(point),
            badWeight(weight) || badTrainCount(n) || badOthers(first, every, near));
        if (refused != 0) {
            return refused;
        }
        passBy(weight, 0, 0);
        int comes = ride.firstTicksAt(point);
        for (int beat = 1; beat <= MOST_BEAT && comes != NONE; beat++) {
            if (nearOnes(comes, n, beat, first, every, near) == 0) {
                return beat;
            }
        }
        return NONE;
    }

    private static boolean badOthers(int first, int every, int near) {
        return outside(first, 0, 999) || outside(every, 1, 999) || outside(near, 0, 99);
    }

    public int stay(int train, int block, int hour, int wind) {
        int refused = refusal(badLoggedTrain(train) || noSuchBlock(block),
            outside(hour, 0, 9999) || outside(wind, 0, 99));
        if (refused != 0) {
            return refused;
        }
        if (day.stays.isFull()) {
            return FULL;
        }
        return day.stays.add(train, block, hour, wind);
    }

    public int led(int stay, int weight) {
        int refused = refusal(outside(stay, 0, day.stays.size() - 1), badWeight(weight));
        if (refused != 0) {
            return refused;
        }
        return ledTo(stay, weight);
    }

    private int ledTo(int stay, int weight) {
        Table stays = day.stays;
        if (!isOut(weight, stays.get(stay, 3), 0)) {
            return 1;
        }
        if (2 * stays.countOf(0, stays.get(stay, 0)) > stays.size()) {
            return 2;
        }
        return 2 * stays.countOf(1, stays.get(stay, 1)) > stays.size() ? 3 : 0;
    }

    public int leads(int to, int weight) {
        int refused = refusal(outside(to, 0, 3), badWeight(weight));
        if (refused != 0) {
            return refused;
        }
        int found = 0;
        for (int k = 0; k < day.stays.size(); k++) {
            if (ledTo(k, weight) == to) {
                found++;
            }
        }
        return found;
    }

    public int quiet() {
        Table stays = day.stays;
        int greatest = NONE;
        for (int k = 0; k < stays.size(); k++) {
            if (stays.countOf(0, stays.get(k, 0)) > 1) {
                greatest = Math.max(greatest, hoursToNext(k));
            }
        }
        return greatest;
    }

    /** HOURS to the next later STAY of the same TRAIN; 0: none is later. */
    private int hoursToNext(int stay) {
        Table stays = day.stays;
        int least = 0;
        for (int k = 0; k < stays.size(); k++) {
            int gap = stays.get(k, 2) - stays.get(stay, 2);
            boolean isNearer = gap > 0 && (least == 0 || gap < least);
            if (isNearer && stays.get(k, 0) == stays.get(stay, 0)) {
                least = gap;
            }
        }
        return least;
    }

    public int grow(int weight, int ticks, int off) {
        Table entries = day.entries;
        boolean isOther = entries.size() > 0 && entries.get(0, 0) != weight;
        int refused = refusal(false, badWeight(weight) || isOther || badTicks(ticks) || outside(off, 0, 99));
        if (refused != 0) {
            return refused;
        }
        if (entries.isFull()) {
            return FULL;
        }
        return entries.add(weight, ticks, off, 0) + 1;
    }

    public int growths(int i) {
        if (noTrack() || day.entries.size() == 0) {
            return NOT_NOW;
        }
        int found = 0;
        for (int drag = 0; drag <= MOST_DRAG; drag++) {
            for (int tenths = 0; tenths <= MOST_TENTHS; tenths++) {
                if (growthFits(drag, tenths)) {
                    if (found == i) {
                        return 100 * drag + tenths;
                    }
                    found++;
                }
            }
        }
        return i == NONE ? found : NONE;
    }

    private boolean growthFits(int drag, int tenths) {
        Table entries = day.entries;
        for (int k = 0; k < entries.size(); k++) {
            if (!ticksFit(grownLoss(drag, tenths, k), entries.get(k, 1), entries.get(k, 2))) {
                return false;
            }
        }
        return true;
    }

    private int grownLoss(int drag, int tenths, int dayNumber) {
        return lossBy(drag + tenths * dayNumber / 10, day.entries.get(0, 0));
    }

    public int foretold(int day, boolean most) {
        if (outside(day, 0, 99)) {
            return BAD_NUMBER;
        }
        if (noTrack() || this.day.entries.size() == 0) {
            return NOT_NOW;
        }
        int best = NONE;
        for (int drag = 0; drag <= MOST_DRAG; drag++) {
            for (int tenths = 0; tenths <= MOST_TENTHS; tenths++) {
                int ticks = growthFits(drag, tenths) ? grownTicks(drag, tenths, day) : NONE;
                boolean further = most ? ticks > best : ticks < best;
                if (ticks != NONE && (best == NONE || further)) {
                    best = ticks;
                }
            }
        }
        return best;
    }

    private int grownTicks(int drag, int tenths, int dayNumber) {
        return ride.ticksIfOut(day.track, grownLoss(drag, tenths, dayNumber));
    }

    public int operator(int keys, int from, int to) {
        if (outside(keys, 0, 63) || badHour(from) || badHour(to) || from > to) {
            return BAD_NUMBER;
        }
        return day.operators.addOr(FULL, keys, from, to);
    }

    public int crew(int hour, int what) {
        int refused = refusal(outside(what, 0, 1), badHour(hour));
        if (refused != 0) {
            return refused;
        }
        int best = smallestCrew(hour);
        if (best == NONE) {
            return NONE;
        }
        return what == 0 ? Integer.bitCount(best) : best;
    }

    /** CREW as bits; it goes up, so that of like ones the least set stays. */
    private int smallestCrew(int hour) {
        int there = onDuty(hour);
        int best = NONE;
        for (int some = 0; some <= there; some++) {
            boolean isFewer = best == NONE || Integer.bitCount(some) < Integer.bitCount(best);
            if ((some & there) == some && isFewer && hasAllKeys(some)) {
                best = some;
            }
        }
        return best;
    }

    private int onDuty(int hour) {
        Table operators = day.operators;
        int there = 0;
        for (int k = 0; k < operators.size(); k++) {
            if (operators.get(k, 1) <= hour && hour <= operators.get(k, 2)) {
                there |= 1 << k;
            }
        }
        return there;
    }

    private boolean hasAllKeys(int some) {
        int needed = day.track.blockBits();
        return (day.operators.union(0, some) & needed) == needed;
    }

    public int bare() {
        if (noTrack()) {
            return NOT_NOW;
        }
        int without = 0;
        for (int hour = 0; hour < HOURS_A_DAY; hour++) {
            if (!hasAllKeys(onDuty(hour))) {
                without |= 1 << hour;
            }
        }
        return without;
    }

    public int lift(int chain, int weight, int many) {
        if (noSuchChain(chain)) {
            return NO_SUCH;
        }
        if (badWeight(weight) || outside(many, 1, 999)) {
            return BAD_NUMBER;
        }
        return day.addStretch(chain, weight * many);
    }

    public int slips(int chain, int weight) {
        if (noSuchChain(chain)) {
            return NO_SUCH;
        }
        if (badWeight(weight)) {
            return BAD_NUMBER;
        }
        int still = 1000 * day.track.chainPace(chain) - day.stretch(chain);
        return still <= 0 ? 0 : (still + weight - 1) / weight;
    }

    public int stretched(int weight, int what) {
        int refused = refusal(outside(what, 0, 5), badWeight(weight));
        if (refused != 0) {
            return refused;
        }
        ride.goSlipping(day.track, lossIn(weight, 0, 0), day.stretch(0) / 1000, day.stretch(1) / 1000);
        return ride.tell(what);
    }

    public int riders(int weight, int n, int late, int most, int seats) {
        int refused = refusal(false, badBeatQuestion(weight, n, late, most) || badSeats(seats));
        if (refused != 0) {
            return refused;
        }
        int beat = leastBeat(weight, n, late, most);
        return beat < 1 ? NONE : seats * 1000 / beat;
    }

    // ---- rows

    public int store(int row, int sort, int n) {
        if (noSuchRow(row) || outside(sort, 0, 3)) {
            return NO_SUCH;
        }
        if (outside(n, 0, MOST_POINTS)) {
            return BAD_NUMBER;
        }
        rows[row].make(sort, n);
        return 0;
    }

    public long write(int row, int i, long v) {
        if (noSuchRow(row)) {
            return NO_SUCH;
        }
        if (rows[row].isMissing()) {
            return ROW_MISSING;
        }
        if (outside(i, 0, rows[row].size() - 1)) {
            return ROW_SHORT;
        }
        return rows[row].put(i, v);
    }

    public int storm(int row, int weight) {
        if (noSuchRow(row)) {
            return NO_SUCH;
        }
        int refused = refusal(false, badWeight(weight));
        if (refused != 0) {
            return refused;
        }
        if (rows[row].isMissing()) {
            return ROW_MISSING;
        }
        for (int i = 0; i < rows[row].size(); i++) {
            int wind = (int) Math.max(0L, Math.min(99L, rows[row].get(i)));
            if (!isOut(weight, wind, 0)) {
                return i;
            }
        }
        return NONE;
    }

    public int keep(int row, int weight) {
        if (noSuchRow(row)) {
            return NO_SUCH;
        }
        int refused = refusal(false, badWeight(weight));
        if (refused != 0) {
            return refused;
        }
        if (rows[row].isMissing()) {
            return ROW_MISSING;
        }
        int points = day.track.points();
        if (rows[row].size() < points) {
            return ROW_SHORT;
        }
        passBy(weight, 0, 0);
        for (int p = 0; p < points; p++) {
            rows[row].put(p, Math.max(0, ride.firstPaceAt(p)));
        }
        return points;
    }

    public int image(int i) {
        if (outside(i, 0, images.length - 1)) {
            return NO_SUCH;
        }
        images[i].copyFrom(day);
        images[i].made = true;
        return 0;
    }

    public int restore(int i) {
        if (outside(i, 0, images.length - 1)) {
            return NO_SUCH;
        }
        if (!images[i].made) {
            return NOT_NOW;
        }
        day.copyFrom(images[i]);
        ride.forget();
        return 0;
    }

    public int count(int what) {
        switch (what) {
            case 0: return day.track.points();
            case 1: return day.track.blocks();
            case 2: return day.track.chains();
            case 3: return day.track.dogs();
            case 4: return day.track.drag();
            case 5: return day.track.push();
            case 6: return day.rules.size();
            case 7: return day.logged.size();
            case 8: return day.stairs.size();
            case 9: return day.tests.size();
            case 10: return day.parts.size();
            case 11: return tape.held();
            case 12: return day.groups.size();
            case 13: return day.stays.size();
            case 14: return day.entries.size();
            case 15: return day.operators.size();
            default: return NONE;
        }
    }

    // ---- what calls share

    private boolean noTrack() {
        return day.track.points() == 0;
    }

    /** The code by which a call that asks of the TRACK is refused, in the order in which calls tell them; 0: it isn't. */
    private int refusal(boolean isNoSuch, boolean isBadNumber) {
        if (isNoSuch) {
            return NO_SUCH;
        }
        if (isBadNumber) {
            return BAD_NUMBER;
        }
        return noTrack() ? NOT_NOW : 0;
    }

    // Without a TRACK what is wrong with a POINT, a BLOCK or its bits isn't looked at.
    private boolean noSuchPoint(int point) {
        return !noTrack() && outside(point, 0, day.track.points() - 1);
    }

    private boolean noSuchBlock(int block) {
        return !noTrack() && outside(block, 0, day.track.blocks() - 1);
    }

    private boolean badBlockBits(int bits) {
        return !noTrack() && (bits & ~day.track.blockBits()) != 0;
    }

    private boolean noSuchChain(int chain) {
        return outside(chain, 0, day.track.chains() - 1);
    }

    private boolean noSuchRow(int row) {
        return outside(row, 0, rows.length - 1);
    }

    private static boolean outside(int value, int low, int high) {
        return value < low || value > high;
    }

    private static boolean badWeight(int weight) {
        return outside(weight, 1, MOST_WEIGHT);
    }

    private static boolean badSeat(int seat) {
        return outside(seat, 0, 9);
    }

    private static boolean badSeats(int seats) {
        return outside(seats, 1, 40);
    }

    private static boolean badTrainCount(int n) {
        return outside(n, 1, MOST_TRAINS);
    }

    private static boolean badBeat(int beat) {
        return outside(beat, 1, MOST_BEAT);
    }

    private static boolean badLoggedTrain(int train) {
        return outside(train, 0, LOGGED_TRAINS - 1);
    }

    private static boolean badTicks(int ticks) {
        return outside(ticks, 1, 99999);
    }

    private static boolean badHeight(int height) {
        return outside(height, 50, 220);
    }

    private static boolean badHour(int hour) {
        return outside(hour, 0, HOURS_A_DAY - 1);
    }

    private static boolean badDayHours(int hours) {
        return outside(hours, 1, HOURS_A_DAY);
    }

    private int lossIn(int weight, int wind, int cold) {
        return weight < 1 ? 0 : (10 * day.track.drag() + 2 * wind + cold) / weight;
    }

    private static int lossBy(int drag, int weight) {
        return weight < 1 ? 0 : 10 * drag / weight;
    }

    private void passBy(int weight, int wind, int cold) {
        ride.go(day.track, lossIn(weight, wind, cold), 0, day.track.push());
    }

    private boolean isOut(int weight, int wind, int cold) {
        return ride.ticksIfOut(day.track, lossIn(weight, wind, cold)) != NONE;
    }

    /** THE TAPE, the TOKENS of a text on it, and the FAULT of the latest text. */
    private static final class Tokens {
        private static final int MOST_BYTES = 400;
        private static final int END = 0;
        private static final int WORD = 1;
        private static final int NUMBER = 2;
        private static final int SIGN = 3;
        private static final int BAD = 4;

        private final int[] bytes = new int[MOST_BYTES];
        private final int[] kinds = new int[MOST_BYTES + 1];
        private final int[] places = new int[MOST_BYTES + 1];
        private final int[] values = new int[MOST_BYTES + 1];
        private int held;
        private int length;
        private int size;
        private int at;
        private int kind = END;
        private int place;
        private int value;
        private int faultKind;
        private int faultPlace = NONE;

        int held() {
            return held;
        }

        boolean hasRoom(int more) {
            return held + more <= bytes.length;
        }

        void addFour(int packed) {
            for (int shift = 24; shift >= 0; shift -= 8) {
                if (held >= 0 && held < bytes.length) {
                    bytes[held] = packed >>> shift & 255;
                    held++;
                }
            }
        }

        void empty() {
            held = 0;
        }

        /** Takes the first n bytes apart; the last TOKEN is the end, or where none begins. */
        void begin(int n) {
            length = Math.max(0, Math.min(n, held));
            size = 0;
            int next = 0;
            for (int k = 0; k <= length && next != NONE; k++) {
                next = scan(skipBlanks(next));
            }
            at = NONE;
            faultKind = 0;
            faultPlace = NONE;
            advance();
        }

        private int skipBlanks(int from) {
            int next = from;
            while (next < length && isBlank(byteAt(next))) {
                next++;
            }
            return next;
        }

        /** Keeps the TOKEN that begins there: the place behind it; NONE: it is the last one. */
        private int scan(int from) {
            int sign = byteAt(from);
            if (from >= length) {
                return put(END, length, 0, NONE);
            }
            if (isLetter(sign)) {
                return scanWord(from);
            }
            if (isDigit(sign)) {
                return scanNumber(from);
            }
            if (sign == ';' || sign == '(' || sign == ')') {
                return put(SIGN, from, sign, from + 1);
            }
            return put(BAD, from, 0, NONE);
        }

        /** The value of a word is its length. */
        private int scanWord(int from) {
            int behind = from;
            while (behind < length && isLetter(byteAt(behind))) {
                behind++;
            }
            return put(WORD, from, behind - from, behind);
        }

        private int scanNumber(int from) {
            int behind = from;
            int number = 0;
            while (behind < length && isDigit(byteAt(behind))) {
                if (behind - from == 3) {
                    return put(BAD, from, 0, NONE);
                }
                number = 10 * number + byteAt(behind) - '0';
                behind++;
            }
            return put(NUMBER, from, number, behind);
        }

        private int put(int newKind, int newPlace, int newValue, int behind) {
            if (size >= 0 && size < kinds.length && size < places.length && size < values.length) {
                kinds[size] = newKind;
                places[size] = newPlace;
                values[size] = newValue;
                size++;
            }
            return behind;
        }

        int faultKind() {
            return faultKind;
        }

        int faultPlace() {
            return faultPlace;
        }

        boolean isSound() {
            return faultKind == 0;
        }

        boolean isAtEnd() {
            return kind == END;
        }

        boolean isNumber() {
            return kind == NUMBER;
        }

        boolean isSign(char sign) {
            return kind == SIGN && value == sign;
        }

        boolean isWord(String word) {
            if (kind != WORD || value != word.length()) {
                return false;
            }
            for (int k = 0; k < word.length(); k++) {
                if (byteAt(place + k) != word.charAt(k)) {
                    return false;
                }
            }
            return true;
        }

        /** Only the first FAULT counts; the TOKEN then is none that anything could take. */
        void fail(int fault) {
            if (faultKind == 0) {
                faultKind = fault;
                faultPlace = place;
            }
            kind = BAD;
        }

        void takeWord(String word) {
            if (isWord(word)) {
                advance();
            } else {
                fail(2);
            }
        }

        void takeSign(char sign) {
            if (isSign(sign)) {
                advance();
            } else {
                fail(2);
            }
        }

        /** An N from low to high, of which one more may stand here if there is room; NONE with a FAULT. */
        int takeNumber(int low, int high, boolean room) {
            if (!isNumber()) {
                fail(2);
                return NONE;
            }
            if (outside(value, low, high)) {
                fail(3);
                return NONE;
            }
            if (!room) {
                fail(5);
                return NONE;
            }
            int taken = value;
            advance();
            return taken;
        }

        /** Goes on to the next TOKEN; at the last one, and with a FAULT, it stays. */
        void advance() {
            int next = at + 1;
            boolean isThere = next >= 0 && next < size && next < kinds.length;
            if (!isThere || next >= places.length || next >= values.length || faultKind != 0) {
                return;
            }
            at = next;
            kind = kinds[next];
            place = places[next];
            value = values[next];
            if (kind == BAD) {
                faultKind = 1;
                faultPlace = place;
            }
        }

        private int byteAt(int i) {
            return i < 0 || i >= bytes.length ? 0 : bytes[i];
        }

        private static boolean isBlank(int sign) {
            return sign == 10 || sign == 32;
        }

        private static boolean isLetter(int sign) {
            return sign >= 'a' && sign <= 'z';
        }

        private static boolean isDigit(int sign) {
            return sign >= '0' && sign <= '9';
        }
    }

    /** Reads the TEXT of a TRACK. */
    private static final class TrackReader {
        private boolean hasDrag;
        private boolean hasPush;

        void read(Tokens tokens, Track track) {
            hasDrag = false;
            hasPush = false;
            track.wipe();
            for (int line = 0; line <= Tokens.MOST_BYTES && tokens.isSound() && !tokens.isAtEnd(); line++) {
                readLine(tokens, track);
                tokens.takeSign(';');
            }
            if (tokens.isSound() && track.points() < 2) {
                tokens.fail(2);
            }
        }

        private void readLine(Tokens tokens, Track track) {
            if (tokens.isWord("high")) {
                readHeights(tokens, track);
            } else if (tokens.isWord("block")) {
                readBlock(tokens, track);
            } else if (tokens.isWord("chain")) {
                readChain(tokens, track);
            } else if (tokens.isWord("dog")) {
                readDog(tokens, track);
            } else if (tokens.isWord("drag")) {
                readDrag(tokens, track);
            } else if (tokens.isWord("push")) {
                readPush(tokens, track);
            } else {
                tokens.fail(2);
            }
        }

        private void readHeights(Tokens tokens, Track track) {
            tokens.advance();
            for (int k = 0; k <= MOST_POINTS && (k == 0 || tokens.isNumber()); k++) {
                int height = tokens.takeNumber(0, 99, track.points() < MOST_POINTS);
                if (height != NONE) {
                    track.addPoint(height);
                }
            }
        }

        private void readBlock(Tokens tokens, Track track) {
            if (track.blocks() >= MOST_BLOCKS) {
                tokens.fail(5);
                return;
            }
            tokens.advance();
            int at = tokens.takeNumber(track.lastSplit() + 1, track.points() - 1, true);
            if (at != NONE) {
                track.addSplit(at);
            }
        }

        private void readChain(Tokens tokens, Track track) {
            if (track.chains() >= 2) {
                tokens.fail(5);
                return;
            }
            tokens.advance();
            int from = tokens.takeNumber(0, track.points() - 1, true);
            tokens.takeWord("to");
            int to = tokens.takeNumber(from + 1, track.points() - 1, true);
            tokens.takeWord("speed");
            int pace = tokens.takeNumber(0, 999, true);
            if (pace != NONE) {
                track.addChain(from, to, pace);
            }
        }

        private void readDog(Tokens tokens, Track track) {
            if (track.dogs() >= 2) {
                tokens.fail(5);
                return;
            }
            tokens.advance();
            int from = tokens.takeNumber(0, track.points() - 1, true);
            tokens.takeWord("to");
            int to = tokens.takeNumber(from + 1, track.points() - 1, true);
            if (to != NONE) {
                track.addDog(from, to);
            }
        }

        private void readDrag(Tokens tokens, Track track) {
            if (hasDrag) {
                tokens.fail(4);
                return;
            }
            hasDrag = true;
            tokens.advance();
            track.setDrag(tokens.takeNumber(0, MOST_DRAG, true));
        }

        private void readPush(Tokens tokens, Track track) {
            if (hasPush) {
                tokens.fail(4);
                return;
            }
            hasPush = true;
            tokens.advance();
            track.setPush(tokens.takeNumber(0, 999, true));
        }
    }

    /** Reads the TEXT of THE CONTROLLER. A TEST becomes the set of all showings of SENSORS by which it holds. */
    private static final class RuleReader {
        private static final int MOST_RULES = 12;
        private static final int MOST_OPEN = 8;

        private int blocks;

        void read(Tokens tokens, int blocks, Rules rules) {
            this.blocks = blocks;
            rules.wipe();
            for (int k = 0; k <= MOST_RULES && tokens.isSound() && !tokens.isAtEnd(); k++) {
                readRule(tokens, rules);
                tokens.takeSign(';');
            }
        }

        private void readRule(Tokens tokens, Rules rules) {
            if (!tokens.isWord("leave")) {
                tokens.fail(2);
            } else if (rules.size() >= MOST_RULES) {
                tokens.fail(4);
            }
            tokens.takeWord("leave");
            int block = tokens.takeNumber(0, blocks - 1, true);
            tokens.takeWord("if");
            long holding = readTest(tokens, 0);
            if (tokens.isSound()) {
                rules.add(block, holding);
            }
        }

        private long readTest(Tokens tokens, int open) {
            long holding = readPart(tokens, open);
            for (int k = 0; k < Tokens.MOST_BYTES && tokens.isWord("or"); k++) {
                tokens.advance();
                holding |= readPart(tokens, open);
            }
            return holding;
        }

        private long readPart(Tokens tokens, int open) {
            long holding = readFact(tokens, open);
            for (int k = 0; k < Tokens.MOST_BYTES && tokens.isWord("and"); k++) {
                tokens.advance();
                holding &= readFact(tokens, open);
            }
            return holding;
        }

        private long readFact(Tokens tokens, int open) {
            if (tokens.isWord("free")) {
                tokens.advance();
                return Rules.showingFree(tokens.takeNumber(0, blocks - 1, true));
            }
            boolean isNot = tokens.isWord("not");
            if (!isNot && !tokens.isSign('(')) {
                tokens.fail(2);
                return 0;
            }
            if (open >= MOST_OPEN) {
                tokens.fail(5);
                return 0;
            }
            tokens.advance();
            if (isNot) {
                return ~readFact(tokens, open + 1);
            }
            long holding = readTest(tokens, open + 1);
            tokens.takeSign(')');
            return holding;
        }
    }

    /** THE TRACK; without any POINTS it is none. */
    private static final class Track {
        private static final int DRAG_UNTOLD = 10;

        private final int[] heights = new int[MOST_POINTS];
        private final int[] splits = new int[MOST_BLOCKS - 1];
        private final int[] chainPace = new int[2];
        /** For each chain, as bits, the POINTS from which it pulls. */
        private final long[] pulledFrom = new long[2];
        /** The POINTS at which a dog holds, as bits. */
        private long dogged;
        private int points;
        private int splitCount;
        private int chains;
        private int dogs;
        private int drag;
        private int push;

        void wipe() {
            Arrays.fill(pulledFrom, 0);
            dogged = 0;
            points = 0;
            splitCount = 0;
            chains = 0;
            dogs = 0;
            drag = DRAG_UNTOLD;
            push = 0;
        }

        void copyFrom(Track other) {
            System.arraycopy(other.heights, 0, heights, 0, heights.length);
            System.arraycopy(other.splits, 0, splits, 0, splits.length);
            System.arraycopy(other.chainPace, 0, chainPace, 0, chainPace.length);
            System.arraycopy(other.pulledFrom, 0, pulledFrom, 0, pulledFrom.length);
            dogged = other.dogged;
            points = other.points;
            splitCount = other.splitCount;
            chains = other.chains;
            dogs = other.dogs;
            drag = other.drag;
            push = other.push;
        }

        void addPoint(int height) {
            if (points >= 0 && points < heights.length) {
                heights[points] = height;
                points++;
            }
        }

        void addSplit(int point) {
            if (splitCount >= 0 && splitCount < splits.length) {
                splits[splitCount] = point;
                splitCount++;
            }
        }

        void addChain(int from, int to, int pace) {
            if (chains >= 0 && chains < chainPace.length && chains < pulledFrom.length) {
                pulledFrom[chains] = pointBits(from, to - 1);
                chainPace[chains] = pace;
                chains++;
            }
        }

        void addDog(int from, int to) {
            dogged |= pointBits(from + 1, to);
            dogs++;
        }

        private static long pointBits(int from, int to) {
            long bits = 0;
            for (int p = from; p <= to && p < MOST_POINTS; p++) {
                bits |= 1L << p;
            }
            return bits;
        }

        void setDrag(int told) {
            drag = told;
        }

        void setPush(int told) {
            push = told;
        }

        int points() {
            return points;
        }

        int blocks() {
            return points == 0 ? 0 : splitCount + 1;
        }

        int blockBits() {
            return (1 << blocks()) - 1;
        }

        int chains() {
            return chains;
        }

        int dogs() {
            return dogs;
        }

        int drag() {
            return drag;
        }

        int push() {
            return push;
        }

        int height(int point) {
            return point < 0 || point >= heights.length ? 0 : heights[point];
        }

        /** The chain that pulls from a POINT, of two the first told; NONE. */
        int chainAt(int point) {
            for (int k = 0; k < chains && k < pulledFrom.length; k++) {
                if ((pulledFrom[k] >>> point & 1) != 0) {
                    return k;
                }
            }
            return NONE;
        }

        int chainPace(int chain) {
            return chain < 0 || chain >= chainPace.length ? 0 : chainPace[chain];
        }

        boolean hasDogAt(int point) {
            return (dogged >>> point & 1) != 0;
        }

        /** The POINT of the latest block told, 0 ahead of the first one. */
        int lastSplit() {
            return blockStart(splitCount);
        }

        int blockStart(int block) {
            return block < 1 || block > splits.length ? 0 : splits[block - 1];
        }

        int blockEnd(int block) {
            return block < 0 || block >= splitCount || block >= splits.length ? points - 1 : splits[block];
        }

        int blockOf(int point) {
            int block = 0;
            for (int k = 0; k < splitCount && k < splits.length; k++) {
                if (splits[k] <= point) {
                    block++;
                }
            }
            return block;
        }

        int walkBetween(int from, int to) {
            return Math.abs(from - to) + Math.abs(height(from) - height(to)) / 5;
        }
    }

    /** THE CONTROLLER: for each BLOCK the showings of SENSORS (bits of BLOCKS that show free) by which one may leave it. */
    private static final class Rules {
        /** Bit s of number b: in showing s the SENSOR of BLOCK b shows free. */
        private static final long[] SHOWING_FREE = {
            0xAAAAAAAAAAAAAAAAL, 0xCCCCCCCCCCCCCCCCL, 0xF0F0F0F0F0F0F0F0L,
            0xFF00FF00FF00FF00L, 0xFFFF0000FFFF0000L, 0xFFFFFFFF00000000L};

        private final long[] holding = new long[MOST_BLOCKS];
        private int ruled;
        private int size;

        static long showingFree(int block) {
            return block < 0 || block >= SHOWING_FREE.length ? 0 : SHOWING_FREE[block];
        }

        void wipe() {
            Arrays.fill(holding, 0);
            ruled = 0;
            size = 0;
        }

        void copyFrom(Rules other) {
            System.arraycopy(other.holding, 0, holding, 0, holding.length);
            ruled = other.ruled;
            size = other.size;
        }

        void add(int block, long showings) {
            if (block >= 0 && block < holding.length) {
                holding[block] |= showings;
                ruled |= 1 << block;
                size++;
            }
        }

        int size() {
            return size;
        }

        boolean allow(int block, int next, int shown) {
            if (block < 0 || block >= holding.length) {
                return false;
            }
            long by = (ruled >>> block & 1) != 0 ? holding[block] : showingFree(next);
            return (by >>> shown & 1) != 0;
        }
    }

    /** Entries of so many ints each, numbered as they come, at most so many. */
    private static final class Table {
        private final int most;
        private final int width;
        private final int[] cells;
        private int size;

        Table(int most, int width) {
            this.most = Math.max(0, most);
            this.width = Math.max(0, width);
            this.cells = new int[this.most * this.width];
        }

        void copyFrom(Table other) {
            System.arraycopy(other.cells, 0, cells, 0, Math.min(cells.length, other.cells.length));
            size = Math.min(most, other.size);
        }

        void wipe() {
            size = 0;
        }

        int size() {
            return size;
        }

        boolean isFull() {
            return size >= most;
        }

        /** One more: its number. */
        int add(int a, int b, int c, int d) {
            if (isFull()) {
                return NONE;
            }
            int number = size;
            size++;
            set(number, 0, a);
            set(number, 1, b);
            set(number, 2, c);
            set(number, 3, d);
            return number;
        }

        int addOr(int refusal, int a, int b, int c) {
            return isFull() ? refusal : add(a, b, c, 0);
        }

        int get(int i, int field) {
            return hasCell(i, field) ? cells[i * width + field] : 0;
        }

        void set(int i, int field, int value) {
            if (hasCell(i, field)) {
                cells[i * width + field] = value;
            }
        }

        private boolean hasCell(int i, int field) {
            return i >= 0 && i < size && size <= most && field >= 0 && field < width;
        }

        /** The first with such a field; NONE. */
        int find(int field, int value) {
            for (int i = 0; i < size; i++) {
                if (get(i, field) == value) {
                    return i;
                }
            }
            return NONE;
        }

        int countOf(int field, int value) {
            int found = 0;
            for (int i = 0; i < size; i++) {
                if (get(i, field) == value) {
                    found++;
                }
            }
            return found;
        }

        int union(int field, int set) {
            int bits = 0;
            for (int i = 0; i < size; i++) {
                if ((set >>> i & 1) != 0) {
                    bits |= get(i, field);
                }
            }
            return bits;
        }

        int sum(int field, int set) {
            int all = 0;
            for (int i = 0; i < size; i++) {
                if ((set >>> i & 1) != 0) {
                    all += get(i, field);
                }
            }
            return all;
        }
    }

    /** All that an IMAGE has. */
    private static final class Day {
        final Track track = new Track();
        final Rules rules = new Rules();
        final Table logged = new Table(12, 4);
        final Table stairs = new Table(6, 1);
        final Table tests = new Table(10, 2);
        final Table parts = new Table(8, 2);
        final Table groups = new Table(10, 2);
        final Table stays = new Table(20, 4);
        final Table entries = new Table(20, 3);
        final Table operators = new Table(8, 3);
        private final int[] stretches = new int[2];
        boolean made;

        void tellTrack(Track told) {
            track.copyFrom(told);
            rules.wipe();
            logged.wipe();
            stairs.wipe();
            stays.wipe();
            entries.wipe();
            Arrays.fill(stretches, 0);
        }

        void copyFrom(Day other) {
            track.copyFrom(other.track);
            rules.copyFrom(other.rules);
            logged.copyFrom(other.logged);
            stairs.copyFrom(other.stairs);
            tests.copyFrom(other.tests);
            parts.copyFrom(other.parts);
            groups.copyFrom(other.groups);
            stays.copyFrom(other.stays);
            entries.copyFrom(other.entries);
            operators.copyFrom(other.operators);
            System.arraycopy(other.stretches, 0, stretches, 0, stretches.length);
        }

        int stretch(int chain) {
            return chain < 0 || chain >= stretches.length ? 0 : stretches[chain];
        }

        int addStretch(int chain, int more) {
            if (chain < 0 || chain >= stretches.length) {
                return 0;
            }
            stretches[chain] += more;
            return stretches[chain];
        }
    }

    /** One RUN after another; what the latest one told stays till the next one. */
    private static final class Ride {
        private static final int OUT = 0;
        private static final int STUCK = 1;
        private static final int HELD = 2;
        private static final int GOING = 3;
        private static final int MOST_STEPS = 300;
        private static final int MOST_PACE = 999;
        /** FORETOLD asks for the greatest LOSS of all: drag 50 and 20 tenths on 99 DAYS, WEIGHT 1. */
        private static final int MOST_LOSS = 2480;
        private static final int UNKNOWN = -2;

        private final int[] firstPace = new int[MOST_POINTS];
        private final int[] firstTicks = new int[MOST_POINTS];
        /** By how much each chain is slower than it was told. */
        private final int[] chainSlips = new int[2];
        private final int[] ticksByLoss = new int[MOST_LOSS + 1];
        private int end;
        private int ticks;
        private int at;
        private int turns;
        private int pace;
        private int top;
        private int far;
        private int slack;
        private boolean isPulled;
        private boolean forth;
        private boolean hasTurnedHere;

        Ride() {
            Arrays.fill(ticksByLoss, UNKNOWN);
        }

        /** To be called as the TRACK changes. */
        void forget() {
            Arrays.fill(ticksByLoss, UNKNOWN);
        }

        /** TICKS of a RUN that is OUT, else NONE; kept, as nothing but the TRACK and LOSS tells them. */
        int ticksIfOut(Track track, int loss) {
            boolean isKept = loss >= 0 && loss < ticksByLoss.length;
            if (isKept && ticksByLoss[loss] != UNKNOWN) {
                return ticksByLoss[loss];
            }
            go(track, loss, 0, track.push());
            int told = isOut() ? ticks : NONE;
            if (isKept) {
                ticksByLoss[loss] = told;
            }
            return told;
        }

        void goSlipping(Track track, int loss, int firstSlip, int secondSlip) {
            chainSlips[0] = firstSlip;
            chainSlips[1] = secondSlip;
            go(track, loss, 0, track.push());
            Arrays.fill(chainSlips, 0);
        }

        void go(Track track, int loss, int from, int startPace) {
            int last = track.points() - 1;
            end = GOING;
            turns = 0;
            top = 0;
            far = NONE;
            slack = MOST_PACE + 1;
            isPulled = false;
            forth = true;
            arrive(from, startPace, 0);
            for (int step = 0; step < MOST_STEPS && end == GOING && at < last; step++) {
                step(track, loss);
            }
            if (end == GOING) {
                end = at >= last ? OUT : STUCK;
            }
        }

        private void step(Track track, int loss) {
            int chain = track.chainAt(at);
            if (!forth && track.hasDogAt(at)) {
                end = HELD;
                return;
            }
            if (!forth && (at == 0 || chain != NONE)) {
                turn();
                return;
            }
            int to = forth ? at + 1 : at - 1;
            int gained = pace + 10 * (track.height(at) - track.height(to)) - loss;
            int next = chain == NONE ? gained : pulledPace(track, chain);
            isPulled |= chain != NONE;
            if (next < 0) {
                slack = isPulled ? slack : Math.min(slack, -next);
                turn();
            } else {
                int capped = Math.min(next, MOST_PACE);
                arrive(to, capped, ticks + ticksAt(capped));
            }
        }

        private static int ticksAt(int newPace) {
            int slowness = 4 + newPace;
            return slowness < 1 ? 1 : 1 + 40 / slowness;
        }

        private int pulledPace(Track track, int chain) {
            int slip = chain < 0 || chain >= chainSlips.length ? 0 : chainSlips[chain];
            return Math.max(0, track.chainPace(chain) - slip);
        }

        private void turn() {
            turns++;
            forth = !forth;
            if (hasTurnedHere) {
                end = STUCK;
            }
            hasTurnedHere = true;
        }

        private void arrive(int to, int newPace, int newTicks) {
            at = to;
            pace = newPace;
            ticks = newTicks;
            top = Math.max(top, newPace);
            slack = isPulled ? slack : Math.min(slack, MOST_PACE + 1 - newPace);
            hasTurnedHere = false;
            if (to > far && to < firstPace.length && to < firstTicks.length) {
                far = to;
                firstPace[to] = newPace;
                firstTicks[to] = newTicks;
            }
        }

        boolean isOut() {
            return end == OUT;
        }

        /**
         * How much greater SPEED at the start must be for the latest RUN to go another way: till a chain pulls, SPEED is
         * greater by that all along, and nothing changes as long as each turn stays one and 999 isn't passed.
         */
        int slack() {
            return slack;
        }

        int tell(int what) {
            switch (what) {
                case 0: return end;
                case 1: return ticks;
                case 2: return at;
                case 3: return turns;
                case 4: return pace;
                default: return top;
            }
        }

        /** SPEED as it first came to a POINT (of a RUN from POINT 0); NONE: it didn't. */
        int firstPaceAt(int point) {
            return hasReached(point) ? firstPace[point] : NONE;
        }

        int firstTicksAt(int point) {
            return hasReached(point) ? firstTicks[point] : NONE;
        }

        private boolean hasReached(int point) {
            return point >= 0 && point <= far && point < firstPace.length && point < firstTicks.length;
        }
    }

    /**
     * Goes through what may happen to TRAINS and SENSORS, shortest rows first and of like ones the first.
     * A state has as bits TRAINS, then SENSORS that lie free, then those that lie not free.
     */
    private static final class Search {
        private static final int ALL = 63;
        private static final int LIE_FREE = 6;
        private static final int LIE_FULL = 12;
        private static final int ROOT = -1;
        /** 20 ways to put 3 TRAINS into 6 BLOCKS, 233 ways for at most 3 of 6 SENSORS to lie. */
        private static final int MOST_STATES = 20 * 233;

        private final long[] seen = new long[1 << LIE_FULL];
        private final int[] states = new int[MOST_STATES];
        private final int[] origins = new int[MOST_STATES];
        private int known;
        private Rules rules;
        private int blocks;
        private int lies;
        private int foundAt;
        private int lastEvent;

        void prepare(Rules rules, int blocks, int lies) {
            this.rules = rules;
            this.blocks = blocks;
            this.lies = lies;
        }

        /** Looks for CRASH, or for STOP; false: there is none. */
        boolean find(boolean crash, int trains) {
            if (trains == 0) {
                return false;
            }
            Arrays.fill(seen, 0);
            known = 0;
            lastEvent = NONE;
            meet(trains, ROOT, 0);
            for (int k = 0; k < known && k < states.length; k++) {
                foundAt = k;
                boolean isFound = crash ? crashesNext(states[k]) : stands(states[k]);
                if (isFound) {
                    return true;
                }
                meetLeaving(k);
                meetLies(k);
            }
            return false;
        }

        /** Whether a TRAIN may leave for one that is in the next BLOCK; lastEvent then is the first such EVENT. */
        private boolean crashesNext(int state) {
            for (int b = 0; b < blocks; b++) {
                if (isIn(state, nextTo(b)) && mayLeave(state, b)) {
                    lastEvent = b;
                    return true;
                }
            }
            return false;
        }

        private boolean stands(int state) {
            for (int b = 0; b < blocks; b++) {
                if (mayLeave(state, b)) {
                    return false;
                }
            }
            return true;
        }

        private void meetLeaving(int k) {
            int state = states[k];
            for (int b = 0; b < blocks; b++) {
                int next = nextTo(b);
                if (!isIn(state, next) && mayLeave(state, b)) {
                    meet(state & ~(1 << b) | 1 << next, k, b);
                }
            }
        }

        private void meetLies(int k) {
            int state = states[k];
            if (Integer.bitCount(state >>> LIE_FREE) >= lies) {
                return;
            }
            int lying = state >>> LIE_FREE | state >>> LIE_FULL;
            for (int b = 0; b < blocks; b++) {
                if ((lying >>> b & 1) == 0) {
                    meet(state | 1 << LIE_FREE + b, k, 10 + b);
                }
            }
            for (int b = 0; b < blocks; b++) {
                if ((lying >>> b & 1) == 0) {
                    meet(state | 1 << LIE_FULL + b, k, 20 + b);
                }
            }
        }

        private void meet(int state, int from, int event) {
            int word = state >>> 6;
            long bit = 1L << (state & 63);
            if (word >= seen.length || known >= states.length || (seen[word] & bit) != 0) {
                return;
            }
            seen[word] |= bit;
            states[known] = state;
            origins[known] = from == ROOT ? ROOT : from * 32 + event;
            known++;
        }

        boolean mayLeave(int state, int block) {
            if (blocks < 2 || !isIn(state, block)) {
                return false;
            }
            int shown = (~state | state >>> LIE_FREE) & ~(state >>> LIE_FULL) & ALL;
            return rules != null && rules.allow(block, nextTo(block), shown);
        }

        private static boolean isIn(int state, int block) {
            return (state >>> block & 1) != 0;
        }

        private int nextTo(int block) {
            return block + 1 >= blocks ? 0 : block + 1;
        }

        int rowLength() {
            int length = lastEvent == NONE ? 0 : 1;
            int k = foundAt;
            for (int guard = 0; guard < MOST_STATES && originOf(k) != ROOT; guard++) {
                length++;
                k = originOf(k) / 32;
            }
            return length;
        }

        /** The i-th EVENT of the row that was found; NONE: it has not so many. */
        int event(int i) {
            int back = rowLength() - 1 - i;
            if (i < 0 || back < 0) {
                return NONE;
            }
            if (lastEvent != NONE) {
                if (back == 0) {
                    return lastEvent;
                }
                back--;
            }
            int k = foundAt;
            for (int guard = 0; guard < back; guard++) {
                k = originOf(k) / 32;
            }
            return originOf(k) % 32;
        }

        private int originOf(int k) {
            return k < 0 || k >= known || k >= origins.length ? ROOT : origins[k];
        }
    }

    /** GROUPS into the fewest TRAINS. */
    private static final class Packing {
        private static final int MOST_SETS = 1 << 10;

        private final int[] loads = new int[MOST_SETS];
        private final int[] needs = new int[MOST_SETS];

        /** For each set of GROUPS that RIDE, from the least on: its load, and how many TRAINS it needs. */
        void pack(Table groups, int riding, int seats) {
            loads[0] = 0;
            needs[0] = 0;
            for (int set = 1; set <= riding && set < MOST_SETS; set++) {
                if ((set & riding) == set) {
                    int low = Integer.numberOfTrailingZeros(set);
                    loads[set] = loads[set & set - 1] + groups.get(low, 0);
                    needs[set] = leastNeed(set, seats);
                }
            }
        }

        /** The TRAIN of the lowest GROUP is tried with all that may ride in it. */
        private int leastNeed(int set, int seats) {
            int low = Integer.lowestOneBit(set);
            int others = set & ~low;
            int least = MOST_SETS;
            int some = others;
            for (int guard = 0; guard < MOST_SETS; guard++) {
                if (loads[some | low] <= seats) {
                    least = Math.min(least, needs[others & ~some] + 1);
                }
                if (some == 0) {
                    break;
                }
                some = some - 1 & others;
            }
            return least;
        }

        int fewest(int riding) {
            return riding < 0 || riding >= MOST_SETS ? 0 : needs[riding];
        }

        int trainAt(int riding, int seats, int i) {
            if (i < 0 || i >= fewest(riding)) {
                return NONE;
            }
            int left = riding;
            int taken = 0;
            for (int k = 0; k <= i; k++) {
                left &= ~taken;
                taken = leastTrain(left, seats);
            }
            return taken;
        }

        /** The least set with the lowest GROUP that one TRAIN may take, so that the others need one TRAIN fewer. */
        private int leastTrain(int left, int seats) {
            int low = Integer.lowestOneBit(left);
            for (int some = low; some <= left && some < MOST_SETS; some++) {
                boolean isPart = (some & left) == some && (some & low) != 0;
                if (isPart && loads[some] <= seats && needs[left & ~some] == needs[left] - 1) {
                    return some;
                }
            }
            return 0;
        }
    }

    /** A ROW; MISSING till it is made. */
    private static final class NumberRow {
        private final long[] numbers = new long[MOST_POINTS];
        private int sort = NONE;
        private int size;

        boolean isMissing() {
            return sort == NONE;
        }

        int size() {
            return size;
        }

        void make(int newSort, int n) {
            sort = newSort;
            size = n;
            Arrays.fill(numbers, 0);
        }

        long get(int i) {
            return i < 0 || i >= size || i >= numbers.length ? 0 : numbers[i];
        }

        /** Cuts a number to the sort and puts it: as it is there then. */
        long put(int i, long v) {
            if (i < 0 || i >= size || i >= numbers.length) {
                return 0;
            }
            numbers[i] = cut(v);
            return numbers[i];
        }

        private long cut(long v) {
            switch (sort) {
                case 0: return (byte) v;
                case 1: return (short) v;
                case 2: return (int) v;
                default: return v;
            }
        }
    }
}
