/**
 * A small river that is shared: reaches, gates, rights by age, least flows for fish, ponds, wells,
 * a ditch house with turns by hours, and dry years. The words in capitals are those of the document.
 */
public final class Ditchright {
    private static final int NONE = -1;
    private static final int REFUSED = -9;
    private static final int FAULTY = -7;

    private static final int MOST_REACHES = 6;
    private static final int MOST_GATES = 8;
    private static final int MOST_WELLS = 3;
    private static final int MOST_RIGHTS = 10;
    private static final int MOST_PONDS = 3;
    private static final int MOST_YEARS = 4;
    private static final int MOST_MEMBERS = 5;
    private static final int MOST_SIGNS = 60;
    private static final int MOST_STEPS = 8;
    private static final int KEPT_DAYS = 5;
    private static final int HOURS = 24;
    // harms() also looks at a move that would make one RIGHT more than there may be.
    private static final int RIGHT_ROWS = MOST_RIGHTS + 1;

    private static final int USE = 0;
    private static final int FISH = 1;
    private static final int STORE = 2;
    private static final int ALL_SEASONS = 15;
    private static final int SEASON_DAYS = 10;
    private static final int FILLING_DAYS = 40;
    private static final int IDLE_DAYS = 40;

    // Columns of the REACHES, in the order of ofReach().
    private static final int DOWN = 0;
    private static final int SPRING = 1;
    private static final int LOSS = 2;
    private static final int WAY = 3;
    private static final int REACH_WIDTH = 4;
    // Columns of the GATES, in the order of ofGate(); the WELLS, too, have their REACH first.
    private static final int AT_REACH = 0;
    private static final int MILE = 1;
    private static final int BOUND = 2;
    private static final int BACK = 3;
    private static final int GATE_WIDTH = 4;
    // Columns of the WELLS, in the order of ofWell(); what was pumped 1 to 5 days ago is behind PUMPED.
    private static final int LAG = 1;
    private static final int PUMP = 2;
    private static final int PUMPED = 2;
    private static final int WELL_WIDTH = 3 + KEPT_DAYS;
    // Columns of the RIGHTS, up to WISH in the order of ofRight(); what they HAD 1 to 5 days ago is behind HAD.
    private static final int KIND = 0;
    private static final int PLACE = 1;
    private static final int BORN = 2;
    private static final int SUM = 3;
    private static final int SEASONS = 4;
    private static final int WISH = 5;
    private static final int DEBT = 6;
    private static final int IDLE = 7;
    private static final int OWN_POND = 8;
    private static final int HAD = 8;
    private static final int RIGHT_WIDTH = 9 + KEPT_DAYS;
    // Columns of the PONDS; the ACCOUNTS of the owners 0 to 2 begin at ACCOUNTS.
    private static final int OWN_RIGHT = 0;
    private static final int ROOM = 1;
    private static final int FILLED = 2;
    private static final int LET_TODAY = 3;
    private static final int LET_YESTERDAY = 4;
    private static final int ACCOUNTS = 5;
    private static final int POND_WIDTH = ACCOUNTS + MOST_PONDS;
    // Columns of the MEMBERS.
    private static final int AREA = 0;
    private static final int PARTS = 1;
    private static final int MEMBER_WIDTH = 2;

    // What stands in the way of a call: nothing, or which exception it has to throw.
    private static final int FINE = 0;
    private static final int NO_SUCH = 1;
    private static final int UNFIT = 2;
    private static final int NOT_NOW = 3;

    // What shuts a RIGHT, if it is no other RIGHT.
    private static final int BY_BOUND = -2;
    private static final int BY_DRYNESS = -3;

    // The BALANCE, in the order of balance().
    private static final int SPRINGS = 0;
    private static final int USED = 1;
    private static final int LOST = 2;
    private static final int KEPT = 3;
    private static final int LEAVES = 4;

    private final Valley now = new Valley();
    private final Sharing today = new Sharing(now);
    private final Valley moved = new Valley();
    private final Sharing afterMove = new Sharing(moved);
    private final Past past = new Past();
    private final Paper paper = new Paper();
    private int refusals = 0;
    private int knocks = 0;

    public Ditchright() {
    }

    // ---- the river

    public int reach(int down, int spring, int loss, int way)
            throws IndexOutOfBoundsException, IllegalArgumentException, IllegalStateException {
        needIndex(isMouth(down));
        needArgument(isIn(spring, 0, 60) && isIn(loss, 0, 5) && isIn(way, 0, 3));
        needState(now.reaches.count() < MOST_REACHES);
        beginStep();
        int number = now.reaches.add();
        now.reaches.set(number, DOWN, down);
        now.reaches.set(number, SPRING, spring);
        now.reaches.set(number, LOSS, loss);
        now.reaches.set(number, WAY, way);
        return number;
    }

    public int lead(int reach, int down) throws IndexOutOfBoundsException, IllegalStateException {
        needIndex(now.reaches.has(reach) && isMouth(down));
        needState(down != reach && !now.isBelow(reach, down));
        beginStep();
        return now.reaches.replace(reach, DOWN, down);
    }

    public int spring(int reach, int drops) throws IndexOutOfBoundsException, IllegalArgumentException {
        needIndex(now.reaches.has(reach));
        needArgument(isIn(drops, 0, 60));
        beginStep();
        return now.reaches.replace(reach, SPRING, drops);
    }

    public int gate(int reach, int mile, int bound, int back)
            throws IndexOutOfBoundsException, IllegalArgumentException, IllegalStateException {
        throwIf(gateTrouble(reach, mile, bound, back));
        beginStep();
        return now.addGate(reach, mile, bound, back);
    }

    public int well(int reach, int lag)
            throws IndexOutOfBoundsException, IllegalArgumentException, IllegalStateException {
        needIndex(now.reaches.has(reach));
        needArgument(isIn(lag, 1, 5));
        needState(now.wells.count() < MOST_WELLS);
        beginStep();
        int number = now.wells.add();
        now.wells.set(number, AT_REACH, reach);
        now.wells.set(number, LAG, lag);
        return number;
    }

    public int pump(int well, int drops) throws IndexOutOfBoundsException, IllegalArgumentException {
        needIndex(now.wells.has(well));
        needArgument(isIn(drops, 0, 9));
        beginStep();
        return now.wells.replace(well, PUMP, drops);
    }

    // ---- rights

    public int right(int gate, int sum, int seasons)
            throws IndexOutOfBoundsException, IllegalArgumentException, IllegalStateException {
        throwIf(rightTrouble(gate, sum, seasons));
        beginStep();
        return now.addRight(USE, gate, now.day, sum, seasons);
    }

    public int fish(int reach, int least)
            throws IndexOutOfBoundsException, IllegalArgumentException, IllegalStateException {
        throwIf(fishTrouble(reach, least));
        beginStep();
        return now.addRight(FISH, reach, now.day, least, ALL_SEASONS);
    }

    public int pond(int gate, int room)
            throws IndexOutOfBoundsException, IllegalArgumentException, IllegalStateException {
        needIndex(now.gates.has(gate));
        needArgument(isIn(room, 1, 60));
        needState(now.ponds.count() < MOST_PONDS && now.rights.count() < MOST_RIGHTS);
        beginStep();
        int right = now.addRight(STORE, gate, now.day, now.gates.get(gate, BOUND), ALL_SEASONS);
        int number = now.ponds.add();
        now.rights.set(right, OWN_POND, number);
        now.ponds.set(number, OWN_RIGHT, right);
        now.ponds.set(number, ROOM, room);
        return number;
    }

    public int wish(int right, int drops) throws IndexOutOfBoundsException, IllegalArgumentException {
        needIndex(now.rights.has(right));
        needArgument(isIn(drops, 0, now.rights.get(right, SUM)));
        beginStep();
        return now.rights.replace(right, WISH, drops);
    }

    public int born(int right, int day) throws IndexOutOfBoundsException, IllegalArgumentException {
        needIndex(now.rights.has(right));
        needArgument(isIn(day, 0, 999));
        beginStep();
        return now.rights.replace(right, BORN, day);
    }

    public int split(int right, int drops)
            throws IndexOutOfBoundsException, IllegalArgumentException, IllegalStateException {
        needIndex(now.rights.has(right));
        needArgument(now.isLiveUse(right) && isIn(drops, 1, now.rights.get(right, SUM) - 1));
        needState(now.rights.count() < MOST_RIGHTS);
        beginStep();
        return now.cutOff(right, now.rights.get(right, PLACE), drops);
    }

    public int raise(int right, int drops)
            throws IndexOutOfBoundsException, IllegalArgumentException, IllegalStateException {
        needIndex(now.rights.has(right));
        int gate = now.rights.get(right, PLACE);
        needArgument(now.isLiveUse(right) && isIn(drops, 1, now.gates.get(gate, BOUND)));
        needState(now.rights.count() < MOST_RIGHTS);
        beginStep();
        return now.addRight(USE, gate, now.day, drops, now.rights.get(right, SEASONS));
    }

    public int move(int right, int gate, int drops)
            throws IndexOutOfBoundsException, IllegalArgumentException, IllegalStateException {
        needIndex(now.rights.has(right) && now.gates.has(gate));
        needArgument(canMoveTo(right, gate) && isIn(drops, 1, mostToMove(right, gate)));
        needState(!now.areApart(now.rights.get(right, PLACE), gate)
                && (drops == now.rights.get(right, SUM) || now.rights.count() < MOST_RIGHTS));
        if (countHarmed(right, gate, drops) > 0) {
            refusals++;
            return REFUSED;
        }
        beginStep();
        return now.moveDrops(right, gate, drops);
    }

    // ---- days, years, measures

    public int run(int days) throws IllegalArgumentException {
        needArgument(isIn(days, 1, 20));
        beginStep();
        int all = 0;
        for (int k = 0; k < days; k++) {
            today.look();
            all += now.endDay(today.byAge);
            today.turnStale();
        }
        return all;
    }

    public int year(int a, int b, int c, int d, int e, int f)
            throws IllegalArgumentException, IllegalStateException {
        needArgument(areTenths(a, b, c) && areTenths(d, e, f));
        needState(now.years.count() < MOST_YEARS);
        beginStep();
        int number = now.years.add();
        now.years.set(number, 0, a);
        now.years.set(number, 1, b);
        now.years.set(number, 2, c);
        now.years.set(number, 3, d);
        now.years.set(number, 4, e);
        now.years.set(number, 5, f);
        return number;
    }

    public int forget() {
        beginStep();
        int gone = now.years.count();
        now.years.clear();
        return gone;
    }

    public int measure(int right, int ago, int drops)
            throws IndexOutOfBoundsException, IllegalArgumentException, IllegalStateException {
        needIndex(now.rights.has(right));
        needArgument(now.rights.get(right, KIND) == USE && isIn(ago, 1, KEPT_DAYS) && isIn(drops, 0, 40));
        needState(now.rights.get(right, HAD + ago) != NONE);
        beginStep();
        int before = now.rights.replace(right, HAD + ago, drops);
        int debt = now.rights.get(right, DEBT) + drops - before;
        now.rights.set(right, DEBT, debt);
        return debt;
    }

    // ---- ponds, the ditch house

    public int let(int owner, int pond, int drops) throws IndexOutOfBoundsException, IllegalArgumentException {
        needIndex(now.ponds.has(owner) && now.ponds.has(pond));
        needArgument(isIn(drops, 1, 60));
        int left = now.ponds.get(pond, ACCOUNTS + owner) - drops;
        if (left < 0) {
            refusals++;
            return REFUSED;
        }
        beginStep();
        now.ponds.set(pond, ACCOUNTS + owner, left);
        now.ponds.grow(pond, LET_TODAY, drops);
        return left;
    }

    public int carry(int owner, int from, int to) throws IndexOutOfBoundsException, IllegalArgumentException {
        needIndex(now.ponds.has(owner) && now.ponds.has(from) && now.ponds.has(to));
        needArgument(from != to);
        beginStep();
        int drops = Math.min(now.ponds.get(from, ACCOUNTS + owner), now.roomIn(to));
        now.ponds.grow(from, ACCOUNTS + owner, -drops);
        now.ponds.grow(to, ACCOUNTS + owner, drops);
        return drops;
    }

    public int member(int area, int parts) throws IllegalArgumentException, IllegalStateException {
        needArgument(isIn(area, 1, 9) && isIn(parts, 1, 9));
        needState(now.ditch.members.count() < MOST_MEMBERS);
        beginStep();
        return now.ditch.join(area, parts);
    }

    public int swap(int one, int other) throws IllegalArgumentException, IllegalStateException {
        needArgument(isHour(one) && isHour(other));
        needState(now.ditch.members.count() > 0);
        beginStep();
        return now.ditch.exchange(one, other) ? 1 : 0;
    }

    public int sell(int hour, int member) throws IndexOutOfBoundsException, IllegalArgumentException {
        needIndex(now.ditch.members.has(member));
        needArgument(isHour(hour));
        beginStep();
        int before = now.ditch.holder(hour);
        now.ditch.buyers[hour] = member;
        return before;
    }

    public int feast(int hours) throws IllegalArgumentException {
        needArgument(isIn(hours, 1, HOURS - 1));
        beginStep();
        now.ditch.delay(hours);
        return now.ditch.holder(0);
    }

    public int round() {
        beginStep();
        return now.ditch.dropSales();
    }

    // ---- steps back, texts

    public int undo() throws IllegalStateException {
        needState(past.count() > 0);
        past.takeBack(now);
        today.turnStale();
        return past.count();
    }

    public int type(int sign) throws IllegalArgumentException, IllegalStateException {
        needArgument(isIn(sign, 0, Paper.LAST_SIGN));
        needState(paper.count() < MOST_SIGNS);
        return paper.write(sign);
    }

    public int wipe() {
        return paper.clear();
    }

    public int read() {
        if (paper.findFault() != NONE) {
            refusals++;
            return FAULTY;
        }
        int done = 0;
        int place = 0;
        for (int k = 0; k < MOST_SIGNS && place < paper.count(); k++) {
            place = paper.readStatement(place);
            if (statementTrouble() != FINE) {
                break;
            }
            if (done == 0) {
                beginStep();
            }
            doStatement();
            done++;
        }
        return done;
    }

    public int knock() {
        knocks++;
        return knocks;
    }

    // ---- who gets how much

    public int share(int right, boolean isAge) throws IndexOutOfBoundsException {
        needIndex(now.rights.has(right));
        today.look();
        return isAge ? today.byAge[right] : today.byPlace[right];
    }

    public int byAge(int nth) throws IndexOutOfBoundsException {
        needIndex(now.rights.has(nth));
        today.look();
        return today.plan.rightOrder[nth];
    }

    public String why(int right) throws IndexOutOfBoundsException {
        needIndex(now.rights.has(right));
        today.look();
        StringBuilder text = new StringBuilder();
        today.writeWhy(text, right);
        return text.toString();
    }

    public String calls(int right) throws IndexOutOfBoundsException {
        needIndex(now.rights.has(right));
        today.look();
        StringBuilder text = new StringBuilder();
        today.writeCalls(text, right);
        return text.toString();
    }

    public int harms(int right, int gate, int drops) throws IndexOutOfBoundsException, IllegalArgumentException {
        needIndex(now.rights.has(right) && now.gates.has(gate));
        needArgument(canMoveTo(right, gate) && isIn(drops, 1, mostToMove(right, gate)));
        return countHarmed(right, gate, drops);
    }

    public int greatest(int right, int gate) throws IndexOutOfBoundsException, IllegalArgumentException {
        needIndex(now.rights.has(right) && now.gates.has(gate));
        needArgument(canMoveTo(right, gate));
        int most = mostToMove(right, gate);
        for (int drops = 1; drops <= most; drops++) {
            if (countHarmed(right, gate, drops) > 0) {
                return drops - 1;
            }
        }
        return most;
    }

    public int sure(int right, int what) throws IndexOutOfBoundsException, IllegalArgumentException {
        needIndex(now.rights.has(right));
        needArgument(isIn(what, 0, 2));
        today.look();
        today.lookAtYears();
        return today.tellYears(right, what);
    }

    public String surety(int right) throws IndexOutOfBoundsException {
        needIndex(now.rights.has(right));
        today.look();
        today.lookAtYears();
        StringBuilder text = new StringBuilder();
        today.writeSurety(text, right);
        return text.toString();
    }

    public int balance(int what) throws IllegalArgumentException {
        needArgument(isIn(what, 0, 4));
        today.look();
        return tellBalance(what);
    }

    // ---- what there is

    public int ofReach(int reach, int what) throws IndexOutOfBoundsException, IllegalArgumentException {
        needIndex(now.reaches.has(reach));
        needArgument(isIn(what, 0, 10));
        today.look();
        return tellReach(reach, what);
    }

    public int ofGate(int gate, int what) throws IndexOutOfBoundsException, IllegalArgumentException {
        needIndex(now.gates.has(gate));
        needArgument(isIn(what, 0, 7));
        today.look();
        return tellGate(gate, what);
    }

    public int ofRight(int right, int what) throws IndexOutOfBoundsException, IllegalArgumentException {
        needIndex(now.rights.has(right));
        needArgument(isIn(what, 0, 10));
        switch (what) {
            case 6:
                return now.wantOf(right);
            case 7:
                return now.rights.get(right, DEBT);
            case 8:
                return now.rights.get(right, IDLE);
            case 9:
                return now.isGone(right) ? 1 : 0;
            case 10:
                return now.rights.get(right, OWN_POND);
            default:
                return now.rights.get(right, what);
        }
    }

    public int had(int right, int ago) throws IndexOutOfBoundsException, IllegalArgumentException {
        needIndex(now.rights.has(right));
        needArgument(isIn(ago, 1, KEPT_DAYS));
        return now.rights.get(right, HAD + ago);
    }

    public int ofPond(int pond, int what) throws IndexOutOfBoundsException, IllegalArgumentException {
        needIndex(now.ponds.has(pond));
        needArgument(isIn(what, 0, 7));
        switch (what) {
            case 0:
                return now.ponds.get(pond, OWN_RIGHT);
            case 1:
                return now.ponds.get(pond, ROOM);
            case 2:
                return now.heldIn(pond);
            case 3:
                return now.ponds.get(pond, FILLED);
            case 7:
                return now.ponds.get(pond, LET_TODAY);
            default:
                return now.ponds.get(pond, ACCOUNTS + what - 4);
        }
    }

    public int ofWell(int well, int what) throws IndexOutOfBoundsException, IllegalArgumentException {
        needIndex(now.wells.has(well));
        needArgument(isIn(what, 0, 3));
        return what == 3 ? now.pumpedBefore(well) : now.wells.get(well, what);
    }

    public int portion(int how, int member, int drops) throws IndexOutOfBoundsException, IllegalArgumentException {
        needIndex(now.ditch.members.has(member));
        needArgument(isIn(how, 0, 2) && isIn(drops, 0, 999));
        if (how == 0) {
            return now.ditch.alike(member, drops);
        }
        if (how == 1) {
            return now.ditch.byArea(member, drops);
        }
        int rest = drops / 2;
        return now.ditch.alike(member, drops - rest) + now.ditch.byArea(member, rest);
    }

    public int hour(int hour, boolean isSold) throws IllegalArgumentException {
        needArgument(isHour(hour));
        return isSold ? now.ditch.holder(hour) : now.ditch.owners[hour];
    }

    public String hours(int member, boolean isNight) throws IndexOutOfBoundsException {
        needIndex(now.ditch.members.has(member));
        StringBuilder text = new StringBuilder();
        now.ditch.writeHours(text, member, isNight);
        return text.toString();
    }

    public int fault() {
        return paper.findFault();
    }

    public String slip() {
        StringBuilder text = new StringBuilder();
        paper.writeTo(text);
        return text.toString();
    }

    public int house(int what) throws IllegalArgumentException {
        needArgument(isIn(what, 0, 10));
        switch (what) {
            case 0:
                return now.reaches.count();
            case 1:
                return now.gates.count();
            case 2:
                return now.rights.count();
            case 3:
                return now.day;
            case 4:
                return now.years.count();
            case 5:
                return now.ditch.members.count();
            case 6:
                return past.count();
            case 7:
                return refusals;
            case 8:
                return knocks;
            case 9:
                return now.ponds.count();
            default:
                return now.wells.count();
        }
    }

    public boolean isSound() {
        today.look();
        return today.goesDropByDrop()
                && today.canFlow()
                && today.isDeafToYounger()
                && today.isBalanced(today.byAge)
                && today.isBalanced(today.byPlace)
                && today.hasFutileCallsAlone()
                && now.pondsHold()
                && now.ditch.isEachHourOwned();
    }

    public long digest() {
        today.look();
        today.lookAtYears();
        long d = 6510;
        for (int what = 0; what <= 10; what++) {
            d = d * 31 + house(what);
        }
        d = addPlaces(d);
        StringBuilder text = new StringBuilder();
        for (int right = 0; right < now.rights.count(); right++) {
            d = addRightTo(d, right, text);
        }
        for (int what = 0; what <= 4; what++) {
            d = d * 31 + tellBalance(what);
        }
        d = addPondsAndWells(d);
        d = addDitch(d);
        d = d * 31 + paper.findFault();
        d = d * 31 + paper.count();
        return d * 31 + (isSound() ? 1 : 0);
    }

    // ---- parts of the digest

    private long addPlaces(long before) {
        long d = before;
        for (int reach = 0; reach < now.reaches.count(); reach++) {
            for (int what = 0; what <= 10; what++) {
                d = d * 31 + tellReach(reach, what);
            }
        }
        for (int gate = 0; gate < now.gates.count(); gate++) {
            for (int what = 0; what <= 7; what++) {
                d = d * 31 + tellGate(gate, what);
            }
        }
        return d;
    }

    private long addRightTo(long before, int right, StringBuilder text) {
        long d = before;
        for (int what = 0; what <= 10; what++) {
            d = d * 31 + ofRight(right, what);
        }
        d = d * 31 + today.byAge[right];
        d = d * 31 + today.byPlace[right];
        for (int what = 0; what <= 2; what++) {
            d = d * 31 + today.tellYears(right, what);
        }
        text.setLength(0);
        today.writeWhy(text, right);
        d = d * 31 + text.length();
        text.setLength(0);
        today.writeCalls(text, right);
        d = d * 31 + text.length();
        text.setLength(0);
        today.writeSurety(text, right);
        d = d * 31 + text.length();
        for (int ago = 1; ago <= KEPT_DAYS; ago++) {
            d = d * 31 + had(right, ago);
        }
        return d;
    }

    private long addPondsAndWells(long before) {
        long d = before;
        for (int pond = 0; pond < now.ponds.count(); pond++) {
            for (int what = 0; what <= 7; what++) {
                d = d * 31 + ofPond(pond, what);
            }
        }
        for (int well = 0; well < now.wells.count(); well++) {
            for (int what = 0; what <= 3; what++) {
                d = d * 31 + ofWell(well, what);
            }
        }
        return d;
    }

    private long addDitch(long before) {
        long d = before;
        for (int member = 0; member < now.ditch.members.count(); member++) {
            for (int how = 0; how <= 2; how++) {
                d = d * 31 + portion(how, member, 100);
            }
        }
        for (int hour = 0; hour < HOURS; hour++) {
            d = d * 31 + now.ditch.holder(hour);
        }
        return d;
    }

    // ---- what is looked at ahead of a call

    private static boolean isIn(int value, int least, int most) {
        return value >= least && value <= most;
    }

    private static boolean isHour(int hour) {
        return isIn(hour, 0, HOURS - 1);
    }

    private static boolean areTenths(int a, int b, int c) {
        return isIn(a, 0, 20) && isIn(b, 0, 20) && isIn(c, 0, 20);
    }

    private boolean isMouth(int down) {
        return down == NONE || now.reaches.has(down);
    }

    private boolean canMoveTo(int right, int gate) {
        return now.isLiveUse(right) && now.rights.get(right, PLACE) != gate;
    }

    private int mostToMove(int right, int gate) {
        return Math.min(now.rights.get(right, SUM), now.gates.get(gate, BOUND));
    }

    private static void needIndex(boolean isThere) {
        if (!isThere) {
            throw new IndexOutOfBoundsException("there is no such one");
        }
    }

    private static void needArgument(boolean isFit) {
        if (!isFit) {
            throw new IllegalArgumentException("that is not what it may be");
        }
    }

    private static void needState(boolean isReady) {
        if (!isReady) {
            throw new IllegalStateException("that can not be done now");
        }
    }

    private static void throwIf(int trouble) {
        needIndex(trouble != NO_SUCH);
        needArgument(trouble != UNFIT);
        needState(trouble != NOT_NOW);
    }

    // read() asks for these, too, and then stops without an exception.

    private int gateTrouble(int reach, int mile, int bound, int back) {
        if (!now.reaches.has(reach)) {
            return NO_SUCH;
        }
        if (!isIn(mile, 0, 9) || !isIn(bound, 1, 40) || !isIn(back, 0, 10)) {
            return UNFIT;
        }
        return now.gates.count() >= MOST_GATES || now.hasGateAt(reach, mile) ? NOT_NOW : FINE;
    }

    private int rightTrouble(int gate, int sum, int seasons) {
        if (!now.gates.has(gate)) {
            return NO_SUCH;
        }
        if (!isIn(sum, 1, now.gates.get(gate, BOUND)) || !isIn(seasons, 1, ALL_SEASONS)) {
            return UNFIT;
        }
        return now.rights.count() >= MOST_RIGHTS ? NOT_NOW : FINE;
    }

    private int fishTrouble(int reach, int least) {
        if (!now.reaches.has(reach)) {
            return NO_SUCH;
        }
        if (!isIn(least, 1, 40)) {
            return UNFIT;
        }
        return now.rights.count() >= MOST_RIGHTS ? NOT_NOW : FINE;
    }

    // ---- other small parts of the calls

    private void beginStep() {
        past.keep(now);
        today.turnStale();
    }

    private int statementTrouble() {
        int[] n = paper.numbers;
        switch (paper.letter) {
            case Paper.SIGN_G:
                return gateTrouble(n[0], n[1], n[2], n[3]);
            case Paper.SIGN_R:
                return rightTrouble(n[0], n[1], n[2]);
            default:
                return fishTrouble(n[0], n[1]);
        }
    }

    private void doStatement() {
        int[] n = paper.numbers;
        switch (paper.letter) {
            case Paper.SIGN_G:
                now.addGate(n[0], n[1], n[2], n[3]);
                break;
            case Paper.SIGN_R:
                now.addRight(USE, n[0], now.day, n[1], n[2]);
                break;
            default:
                now.addRight(FISH, n[0], now.day, n[1], ALL_SEASONS);
                break;
        }
    }

    // These come behind today.look().

    private int tellBalance(int what) {
        today.flow.walk(today.springs, today.byAge);
        return today.flow.balanceOf(what, today.springs);
    }

    private int tellReach(int reach, int what) {
        Flow flow = today.flow;
        flow.walk(today.springs, today.byAge);
        switch (what) {
            case 4:
                return today.springs[reach];
            case 5:
                return flow.in[reach];
            case 6:
                return flow.lost[reach];
            case 7:
                return flow.rest[reach];
            case 8:
                return flow.out[reach];
            case 9:
                return now.daysToLeave(reach);
            case 10:
                return now.countGatesAt(reach);
            default:
                return now.reaches.get(reach, what);
        }
    }

    private int tellGate(int gate, int what) {
        today.flow.walk(today.springs, today.byAge);
        switch (what) {
            case 4:
                return today.flow.taken[gate];
            case 5:
                return today.flow.returned[gate];
            case 6:
                return now.countRightsAt(gate);
            case 7:
                return today.hasShortRight(gate) ? 1 : 0;
            default:
                return now.gates.get(gate, what);
        }
    }

    private int countHarmed(int right, int gate, int drops) {
        today.look();
        today.lookAtYears();
        moved.copyFrom(now);
        moved.moveDrops(right, gate, drops);
        afterMove.turnStale();
        afterMove.look();
        afterMove.lookAtYears();
        int harmed = countLess(right, today.byAge, afterMove.byAge);
        for (int year = 0; year < now.years.count(); year++) {
            harmed += countLess(right, today.inYears[year], afterMove.inYears[year]);
        }
        return harmed;
    }

    private int countLess(int mover, int[] before, int[] after) {
        int less = 0;
        for (int right = 0; right < now.rights.count(); right++) {
            if (right != mover && after[right] < before[right]) {
                less++;
            }
        }
        return less;
    }

    // ---- what holds the state

    /** Numbered rows of numbers, as many as have been added, none beyond a limit. */
    private static final class Table {
        private final int[] cells;
        private final int width;
        private final int most;
        private int count = 0;

        Table(int most, int width) {
            this.most = most;
            this.width = width;
            cells = new int[most * width];
        }

        int count() {
            return count;
        }

        boolean has(int row) {
            return row >= 0 && row < count;
        }

        int add() {
            if (count >= most) {
                return NONE;
            }
            for (int column = 0; column < width; column++) {
                cells[count * width + column] = 0;
            }
            count++;
            return count - 1;
        }

        void clear() {
            count = 0;
        }

        int get(int row, int column) {
            if (row < 0 || row >= count || column < 0 || column >= width) {
                return NONE;
            }
            return cells[row * width + column];
        }

        void set(int row, int column, int value) {
            if (row >= 0 && row < count && column >= 0 && column < width) {
                cells[row * width + column] = value;
            }
        }

        void grow(int row, int column, int more) {
            set(row, column, get(row, column) + more);
        }

        int replace(int row, int column, int value) {
            int before = get(row, column);
            set(row, column, value);
            return before;
        }

        /** Each column from first to last takes what the one ahead of it had; the first one takes value. */
        void push(int row, int first, int last, int value) {
            for (int column = last; column > first; column--) {
                set(row, column, get(row, column - 1));
            }
            set(row, first, value);
        }

        void copyFrom(Table other) {
            count = other.count;
            System.arraycopy(other.cells, 0, cells, 0, Math.min(cells.length, other.cells.length));
        }
    }

    /** All that a STEP may change, but the DITCH HOUSE, which stands beside it. */
    private static final class Valley {
        final Table reaches = new Table(MOST_REACHES, REACH_WIDTH);
        final Table gates = new Table(MOST_GATES, GATE_WIDTH);
        final Table wells = new Table(MOST_WELLS, WELL_WIDTH);
        final Table rights = new Table(RIGHT_ROWS, RIGHT_WIDTH);
        final Table ponds = new Table(MOST_PONDS, POND_WIDTH);
        final Table years = new Table(MOST_YEARS, MOST_REACHES);
        final Ditch ditch = new Ditch();
        int day = 0;

        void copyFrom(Valley other) {
            reaches.copyFrom(other.reaches);
            gates.copyFrom(other.gates);
            wells.copyFrom(other.wells);
            rights.copyFrom(other.rights);
            ponds.copyFrom(other.ponds);
            years.copyFrom(other.years);
            ditch.copyFrom(other.ditch);
            day = other.day;
        }

        boolean isBelow(int lower, int upper) {
            int reach = reaches.get(upper, DOWN);
            for (int k = 0; k < MOST_REACHES && reach != NONE; k++) {
                if (reach == lower) {
                    return true;
                }
                reach = reaches.get(reach, DOWN);
            }
            return false;
        }

        boolean areApart(int gate, int other) {
            int one = gates.get(gate, AT_REACH);
            int two = gates.get(other, AT_REACH);
            return one != two && !isBelow(one, two) && !isBelow(two, one);
        }

        int daysToLeave(int from) {
            int days = 0;
            int reach = from;
            for (int k = 0; k < MOST_REACHES && reach != NONE; k++) {
                days += reaches.get(reach, WAY);
                reach = reaches.get(reach, DOWN);
            }
            return days;
        }

        int addGate(int reach, int mile, int bound, int back) {
            int gate = gates.add();
            gates.set(gate, AT_REACH, reach);
            gates.set(gate, MILE, mile);
            gates.set(gate, BOUND, bound);
            gates.set(gate, BACK, back);
            return gate;
        }

        boolean hasGateAt(int reach, int mile) {
            for (int gate = 0; gate < gates.count(); gate++) {
                if (gates.get(gate, AT_REACH) == reach && gates.get(gate, MILE) == mile) {
                    return true;
                }
            }
            return false;
        }

        int countGatesAt(int reach) {
            int found = 0;
            for (int gate = 0; gate < gates.count(); gate++) {
                if (gates.get(gate, AT_REACH) == reach) {
                    found++;
                }
            }
            return found;
        }

        int countRightsAt(int gate) {
            int found = 0;
            for (int right = 0; right < rights.count(); right++) {
                if (rights.get(right, KIND) != FISH && rights.get(right, PLACE) == gate) {
                    found++;
                }
            }
            return found;
        }

        int pumpedBefore(int well) {
            return wells.get(well, PUMPED + wells.get(well, LAG));
        }

        int springToday(int reach) {
            int drops = reaches.get(reach, SPRING);
            for (int well = 0; well < wells.count(); well++) {
                if (wells.get(well, AT_REACH) == reach) {
                    drops -= pumpedBefore(well);
                }
            }
            drops = Math.max(0, drops);
            for (int pond = 0; pond < ponds.count(); pond++) {
                int gate = rights.get(ponds.get(pond, OWN_RIGHT), PLACE);
                if (gates.get(gate, AT_REACH) == reach) {
                    drops += ponds.get(pond, LET_YESTERDAY);
                }
            }
            return drops;
        }

        int springInYear(int reach, int year) {
            return reaches.get(reach, SPRING) * years.get(year, reach) / 10;
        }

        int addRight(int kind, int place, int born, int sum, int seasons) {
            int right = rights.add();
            rights.set(right, KIND, kind);
            rights.set(right, PLACE, place);
            rights.set(right, BORN, born);
            rights.set(right, SUM, sum);
            rights.set(right, SEASONS, seasons);
            rights.set(right, WISH, sum);
            rights.set(right, OWN_POND, NONE);
            for (int ago = 1; ago <= KEPT_DAYS; ago++) {
                rights.set(right, HAD + ago, NONE);
            }
            return right;
        }

        int cutOff(int right, int gate, int drops) {
            int kept = rights.get(right, SUM) - drops;
            rights.set(right, SUM, kept);
            rights.set(right, WISH, kept);
            return addRight(USE, gate, rights.get(right, BORN), drops, rights.get(right, SEASONS));
        }

        int moveDrops(int right, int gate, int drops) {
            if (drops < rights.get(right, SUM)) {
                return cutOff(right, gate, drops);
            }
            rights.set(right, PLACE, gate);
            return right;
        }

        boolean isInSeason(int right) {
            int season = day / SEASON_DAYS % 4;
            return (rights.get(right, SEASONS) >> season & 1) == 1;
        }

        boolean isGone(int right) {
            // A USE that is GONE never has anything again, so that its IDLE only grows.
            return rights.get(right, KIND) == USE && rights.get(right, IDLE) >= IDLE_DAYS;
        }

        boolean isLiveUse(int right) {
            return rights.get(right, KIND) == USE && !isGone(right);
        }

        int wantOf(int right) {
            if (!isInSeason(right) || isGone(right)) {
                return 0;
            }
            int wish = rights.get(right, WISH);
            if (rights.get(right, KIND) == USE) {
                return wish - lessenedBy(right);
            }
            if (rights.get(right, KIND) == FISH) {
                return wish;
            }
            int pond = rights.get(right, OWN_POND);
            int unfilled = 2 * ponds.get(pond, ROOM) - ponds.get(pond, FILLED);
            return Math.min(wish, Math.min(roomIn(pond), unfilled));
        }

        private int lessenedBy(int right) {
            return Math.min(rights.get(right, WISH), Math.max(0, rights.get(right, DEBT)));
        }

        int heldIn(int pond) {
            int held = 0;
            for (int owner = 0; owner < MOST_PONDS; owner++) {
                held += ponds.get(pond, ACCOUNTS + owner);
            }
            return held;
        }

        int roomIn(int pond) {
            return ponds.get(pond, ROOM) - heldIn(pond);
        }

        boolean pondsHold() {
            for (int pond = 0; pond < ponds.count(); pond++) {
                if (roomIn(pond) < 0) {
                    return false;
                }
            }
            return true;
        }

        int endDay(int[] shares) {
            int all = 0;
            for (int right = 0; right < rights.count(); right++) {
                endDayOf(right, shares[right]);
                if (rights.get(right, KIND) != FISH) {
                    all += shares[right];
                }
            }
            for (int pond = 0; pond < ponds.count(); pond++) {
                seep(pond);
                ponds.push(pond, LET_TODAY, LET_YESTERDAY, 0);
            }
            for (int well = 0; well < wells.count(); well++) {
                wells.push(well, PUMPED + 1, PUMPED + KEPT_DAYS, wells.get(well, PUMP));
            }
            day++;
            if (day % FILLING_DAYS == 0) {
                emptyFilled();
            }
            return all;
        }

        private void endDayOf(int right, int share) {
            rights.push(right, HAD + 1, HAD + KEPT_DAYS, share);
            if (isLiveUse(right) && isInSeason(right)) {
                rights.grow(right, DEBT, -lessenedBy(right));
            }
            rights.set(right, IDLE, share > 0 ? 0 : rights.get(right, IDLE) + 1);
            int pond = rights.get(right, OWN_POND);
            if (pond != NONE) {
                ponds.grow(pond, ACCOUNTS + pond, share);
                ponds.grow(pond, FILLED, share);
            }
        }

        private void seep(int pond) {
            for (int owner = 0; owner < MOST_PONDS; owner++) {
                ponds.grow(pond, ACCOUNTS + owner, -(ponds.get(pond, ACCOUNTS + owner) / 10));
            }
        }

        private void emptyFilled() {
            for (int pond = 0; pond < ponds.count(); pond++) {
                ponds.set(pond, FILLED, 0);
            }
        }
    }

    /** The DITCH HOUSE: its MEMBERS, and who has which hour. */
    private static final class Ditch {
        final Table members = new Table(MOST_MEMBERS, MEMBER_WIDTH);
        final int[] owners = new int[HOURS];
        final int[] buyers = new int[HOURS];
        private final int[] spare = new int[HOURS];

        Ditch() {
            for (int hour = 0; hour < HOURS; hour++) {
                owners[hour] = NONE;
                buyers[hour] = NONE;
            }
        }

        void copyFrom(Ditch other) {
            members.copyFrom(other.members);
            System.arraycopy(other.owners, 0, owners, 0, HOURS);
            System.arraycopy(other.buyers, 0, buyers, 0, HOURS);
        }

        int join(int area, int parts) {
            int member = members.add();
            members.set(member, AREA, area);
            members.set(member, PARTS, parts);
            tellHours();
            dropSales();
            return member;
        }

        private int total(int column) {
            int all = 0;
            for (int member = 0; member < members.count(); member++) {
                all += members.get(member, column);
            }
            return all;
        }

        /** What a MEMBER has of a sum, by AREA or PARTS; what is left goes, one each, to the first ones. */
        private int partOf(int member, int column, int sum) {
            int all = total(column);
            if (all <= 0) {
                return 0;
            }
            int left = sum;
            for (int other = 0; other < members.count(); other++) {
                left -= sum * members.get(other, column) / all;
            }
            return sum * members.get(member, column) / all + (member < left ? 1 : 0);
        }

        private void tellHours() {
            int hour = 0;
            for (int member = 0; member < members.count(); member++) {
                int last = Math.min(HOURS, hour + partOf(member, PARTS, HOURS));
                for (; hour < last; hour++) {
                    owners[hour] = member;
                }
            }
        }

        int alike(int member, int sum) {
            int count = members.count();
            return count == 0 ? 0 : sum / count + (member < sum % count ? 1 : 0);
        }

        int byArea(int member, int sum) {
            return partOf(member, AREA, sum);
        }

        int holder(int hour) {
            return buyers[hour] == NONE ? owners[hour] : buyers[hour];
        }

        boolean exchange(int one, int other) {
            int before = owners[one];
            owners[one] = owners[other];
            owners[other] = before;
            return owners[one] != before;
        }

        void delay(int hours) {
            turn(owners, hours);
            turn(buyers, hours);
        }

        private void turn(int[] row, int hours) {
            System.arraycopy(row, 0, spare, 0, HOURS);
            for (int hour = 0; hour < HOURS; hour++) {
                row[hour] = spare[(hour + HOURS - hours) % HOURS];
            }
        }

        int dropSales() {
            int sold = 0;
            for (int hour = 0; hour < HOURS; hour++) {
                if (buyers[hour] != NONE) {
                    buyers[hour] = NONE;
                    sold++;
                }
            }
            return sold;
        }

        void writeHours(StringBuilder text, int member, boolean isNight) {
            for (int hour = 0; hour < HOURS; hour++) {
                boolean isDark = hour < 6 || hour > 17;
                if (holder(hour) == member && (isDark || !isNight)) {
                    if (text.length() > 0) {
                        text.append(' ');
                    }
                    text.append(hour);
                }
            }
        }

        boolean isEachHourOwned() {
            for (int hour = 0; hour < HOURS && members.count() > 0; hour++) {
                if (!members.has(owners[hour]) || !members.has(holder(hour))) {
                    return false;
                }
            }
            return true;
        }
    }

    /** How all was ahead of each of the last 8 STEPS. */
    private static final class Past {
        private final Valley[] before = new Valley[MOST_STEPS];
        private int next = 0;
        private int count = 0;

        Past() {
            for (int k = 0; k < MOST_STEPS; k++) {
                before[k] = new Valley();
            }
        }

        int count() {
            return count;
        }

        void keep(Valley valley) {
            before[next].copyFrom(valley);
            next = (next + 1) % MOST_STEPS;
            count = Math.min(MOST_STEPS, count + 1);
        }

        void takeBack(Valley valley) {
            next = (next + MOST_STEPS - 1) % MOST_STEPS;
            valley.copyFrom(before[next]);
            count--;
        }
    }

    /** What Flow reads of a Valley, set out in rows, and the orders in which it goes through them. */
    private static final class Plan {
        int reachCount = 0;
        int gateCount = 0;
        int rightCount = 0;
        final int[] down = new int[MOST_REACHES];
        final int[] loss = new int[MOST_REACHES];
        final int[] gateReach = new int[MOST_GATES];
        final int[] bound = new int[MOST_GATES];
        final int[] back = new int[MOST_GATES];
        final int[] kind = new int[RIGHT_ROWS];
        final int[] place = new int[RIGHT_ROWS];
        final int[] reachOrder = new int[MOST_REACHES];
        final int[] gateOrder = new int[MOST_GATES];
        final int[] rightOrder = new int[RIGHT_ROWS];
        private final int[] inflows = new int[MOST_REACHES];
        private final int[] mile = new int[MOST_GATES];
        private final int[] born = new int[RIGHT_ROWS];

        void draw(Valley valley) {
            reachCount = valley.reaches.count();
            gateCount = valley.gates.count();
            rightCount = valley.rights.count();
            for (int reach = 0; reach < reachCount; reach++) {
                down[reach] = valley.reaches.get(reach, DOWN);
                loss[reach] = valley.reaches.get(reach, LOSS);
            }
            for (int gate = 0; gate < gateCount; gate++) {
                gateReach[gate] = valley.gates.get(gate, AT_REACH);
                mile[gate] = valley.gates.get(gate, MILE);
                bound[gate] = valley.gates.get(gate, BOUND);
                back[gate] = valley.gates.get(gate, BACK);
            }
            for (int right = 0; right < rightCount; right++) {
                kind[right] = valley.rights.get(right, KIND);
                place[right] = valley.rights.get(right, PLACE);
                born[right] = valley.rights.get(right, BORN);
            }
            orderReaches();
            orderGates();
            orderRights();
        }

        boolean isAtGate(int right, int gate) {
            return kind[right] != FISH && place[right] == gate;
        }

        private void orderReaches() {
            for (int reach = 0; reach < reachCount; reach++) {
                inflows[reach] = 0;
            }
            for (int reach = 0; reach < reachCount; reach++) {
                if (down[reach] != NONE) {
                    inflows[down[reach]]++;
                }
            }
            for (int k = 0; k < reachCount; k++) {
                int reach = firstWithoutInflow();
                reachOrder[k] = reach;
                inflows[reach] = NONE;
                if (down[reach] != NONE) {
                    inflows[down[reach]]--;
                }
            }
        }

        private int firstWithoutInflow() {
            for (int reach = 0; reach < reachCount; reach++) {
                if (inflows[reach] == 0) {
                    return reach;
                }
            }
            return 0;
        }

        /** GATES stand REACH by REACH, as these do, and there by rising MILES. */
        private void orderGates() {
            int set = 0;
            for (int k = 0; k < reachCount; k++) {
                int first = set;
                for (int gate = 0; gate < gateCount; gate++) {
                    if (gateReach[gate] != reachOrder[k]) {
                        continue;
                    }
                    int spot = set;
                    for (; spot > first && mile[gateOrder[spot - 1]] > mile[gate]; spot--) {
                        gateOrder[spot] = gateOrder[spot - 1];
                    }
                    gateOrder[spot] = gate;
                    set++;
                }
            }
        }

        private void orderRights() {
            for (int right = 0; right < rightCount; right++) {
                int spot = right;
                for (; spot > 0 && born[rightOrder[spot - 1]] > born[right]; spot--) {
                    rightOrder[spot] = rightOrder[spot - 1];
                }
                rightOrder[spot] = right;
            }
        }
    }

    /** What FLOWS with some SHARES and some springs. */
    private static final class Flow {
        private final Plan plan;
        final int[] in = new int[MOST_REACHES];
        final int[] lost = new int[MOST_REACHES];
        final int[] rest = new int[MOST_REACHES];
        final int[] out = new int[MOST_REACHES];
        private final int[] fishNeed = new int[MOST_REACHES];
        final int[] taken = new int[MOST_GATES];
        private final int[] used = new int[MOST_GATES];
        final int[] returned = new int[MOST_GATES];

        Flow(Plan plan) {
            this.plan = plan;
        }

        /**
         * Lets the water flow. Answers NONE, or the first spot that can not FLOW, behind which nothing is told:
         * a GATE, or MOST_GATES and the REACH whose REST it is.
         */
        int walk(int[] springs, int[] shares) {
            begin(springs);
            gather(shares);
            int next = 0;
            for (int k = 0; k < plan.reachCount; k++) {
                int reach = plan.reachOrder[k];
                int there = enter(reach);
                int returns = 0;
                for (; next < plan.gateCount && plan.gateReach[plan.gateOrder[next]] == reach; next++) {
                    int gate = plan.gateOrder[next];
                    if (taken[gate] > plan.bound[gate] || taken[gate] > there) {
                        return gate;
                    }
                    there -= taken[gate];
                    returns += giveBack(gate);
                }
                leave(reach, there, returns);
                if (fishNeed[reach] > there) {
                    return MOST_GATES + reach;
                }
            }
            return NONE;
        }

        /** Fills in the SHARES by PLACE. */
        void shareByPlace(int[] springs, int[] wants, int[] shares) {
            begin(springs);
            for (int right = 0; right < plan.rightCount; right++) {
                shares[right] = 0;
            }
            int next = 0;
            for (int k = 0; k < plan.reachCount; k++) {
                int reach = plan.reachOrder[k];
                int there = enter(reach);
                int returns = 0;
                for (; next < plan.gateCount && plan.gateReach[plan.gateOrder[next]] == reach; next++) {
                    int gate = plan.gateOrder[next];
                    serve(gate, Math.min(there, plan.bound[gate]), wants, shares);
                    there -= taken[gate];
                    returns += giveBack(gate);
                }
                leave(reach, there, returns);
            }
        }

        private void begin(int[] springs) {
            for (int reach = 0; reach < plan.reachCount; reach++) {
                in[reach] = springs[reach];
                fishNeed[reach] = 0;
            }
            for (int gate = 0; gate < plan.gateCount; gate++) {
                taken[gate] = 0;
                used[gate] = 0;
            }
        }

        private void gather(int[] shares) {
            for (int right = 0; right < plan.rightCount; right++) {
                int place = plan.place[right];
                if (plan.kind[right] == FISH) {
                    fishNeed[place] = Math.max(fishNeed[place], shares[right]);
                } else {
                    taken[place] += shares[right];
                    used[place] += plan.kind[right] == USE ? shares[right] : 0;
                }
            }
        }

        private int enter(int reach) {
            lost[reach] = in[reach] * plan.loss[reach] / 10;
            return in[reach] - lost[reach];
        }

        private void serve(int gate, int most, int[] wants, int[] shares) {
            for (int k = 0; k < plan.rightCount; k++) {
                int right = plan.rightOrder[k];
                if (plan.isAtGate(right, gate)) {
                    int share = Math.min(wants[right], most - taken[gate]);
                    shares[right] = share;
                    taken[gate] += share;
                    used[gate] += plan.kind[right] == USE ? share : 0;
                }
            }
        }

        private int giveBack(int gate) {
            returned[gate] = used[gate] * plan.back[gate] / 10;
            return returned[gate];
        }

        private void leave(int reach, int there, int returns) {
            rest[reach] = there;
            out[reach] = there + returns;
            int down = plan.down[reach];
            if (down != NONE) {
                in[down] += out[reach];
            }
        }

        /** One number of the BALANCE of the last walk, which came to its end. */
        int balanceOf(int what, int[] springs) {
            int sum = 0;
            for (int reach = 0; reach < plan.reachCount; reach++) {
                if (what == SPRINGS) {
                    sum += springs[reach];
                } else if (what == LOST) {
                    sum += lost[reach];
                } else if (what == LEAVES && plan.down[reach] == NONE) {
                    sum += out[reach];
                }
            }
            for (int gate = 0; gate < plan.gateCount; gate++) {
                if (what == USED) {
                    sum += used[gate] - returned[gate];
                } else if (what == KEPT) {
                    sum += taken[gate] - used[gate];
                }
            }
            return sum;
        }
    }

    /** The SHARES in a Valley; look(), and for YEARS lookAtYears(), too, comes ahead of all that is asked. */
    private static final class Sharing {
        private final Valley valley;
        final Plan plan = new Plan();
        final Flow flow = new Flow(plan);
        final int[] springs = new int[MOST_REACHES];
        private final int[] yearSprings = new int[MOST_REACHES];
        private final int[] wants = new int[RIGHT_ROWS];
        final int[] byAge = new int[RIGHT_ROWS];
        final int[] byPlace = new int[RIGHT_ROWS];
        final int[][] inYears = new int[MOST_YEARS][RIGHT_ROWS];
        private final int[] otherWants = new int[RIGHT_ROWS];
        private final int[] otherShares = new int[RIGHT_ROWS];
        private boolean isFresh = false;
        private boolean areYearsFresh = false;

        Sharing(Valley valley) {
            this.valley = valley;
        }

        void turnStale() {
            isFresh = false;
            areYearsFresh = false;
        }

        void look() {
            if (isFresh) {
                return;
            }
            plan.draw(valley);
            for (int reach = 0; reach < plan.reachCount; reach++) {
                springs[reach] = valley.springToday(reach);
            }
            for (int right = 0; right < plan.rightCount; right++) {
                wants[right] = valley.wantOf(right);
            }
            shareByAge(springs, wants, byAge);
            flow.shareByPlace(springs, wants, byPlace);
            isFresh = true;
        }

        /** Comes behind look(). */
        void lookAtYears() {
            if (areYearsFresh) {
                return;
            }
            for (int year = 0; year < valley.years.count(); year++) {
                for (int reach = 0; reach < plan.reachCount; reach++) {
                    yearSprings[reach] = valley.springInYear(reach, year);
                }
                shareByAge(yearSprings, wants, inYears[year]);
            }
            areYearsFresh = true;
        }

        private void shareByAge(int[] fromSprings, int[] upTo, int[] shares) {
            for (int right = 0; right < plan.rightCount; right++) {
                shares[right] = 0;
            }
            for (int k = 0; k < plan.rightCount; k++) {
                int right = plan.rightOrder[k];
                findGreatest(right, upTo[right], fromSprings, shares);
            }
        }

        /** Gives a RIGHT the greatest SHARE up to want that can FLOW. */
        private void findGreatest(int right, int want, int[] fromSprings, int[] shares) {
            shares[right] = want;
            if (want == 0 || flow.walk(fromSprings, shares) == NONE) {
                return;
            }
            // A drop less can FLOW wherever a drop more can, so halving finds the greatest SHARE; a WANT is below 64.
            int greatest = 0;
            for (int more = 32; more > 0; more /= 2) {
                shares[right] = greatest + more;
                if (greatest + more < want && flow.walk(fromSprings, shares) == NONE) {
                    greatest += more;
                }
            }
            shares[right] = greatest;
        }

        boolean isShort(int right) {
            return byAge[right] < wants[right];
        }

        boolean hasShortRight(int gate) {
            for (int right = 0; right < plan.rightCount; right++) {
                if (plan.isAtGate(right, gate) && isShort(right)) {
                    return true;
                }
            }
            return false;
        }

        void writeWhy(StringBuilder text, int first) {
            if (!isShort(first)) {
                text.append('-');
                return;
            }
            text.append(first);
            int right = first;
            // One that shuts another one is older than that, so the chain has an end.
            for (int k = 0; k < plan.rightCount && isShort(right); k++) {
                text.append('<');
                int shutter = findShutter(right);
                if (shutter == BY_BOUND) {
                    text.append('B').append(plan.place[right]);
                    return;
                }
                if (shutter == BY_DRYNESS) {
                    text.append('D');
                    return;
                }
                text.append(shutter);
                right = shutter;
            }
        }

        private int findShutter(int right) {
            setOneMore(right);
            int spot = flow.walk(springs, otherShares);
            boolean isGate = spot >= 0 && spot < plan.gateCount;
            // Only the RIGHT's own GATE can be above its BOUND, for all others flow as before.
            if (isGate && flow.taken[spot] > plan.bound[spot]) {
                return BY_BOUND;
            }
            if (plan.kind[right] == FISH || spot == plan.place[right]) {
                return BY_DRYNESS;
            }
            return isGate ? youngestAtGate(spot) : youngestAtRest(spot - MOST_GATES);
        }

        /** One drop more for a RIGHT, older ones as they are by AGE, nothing for younger ones. */
        private void setOneMore(int right) {
            boolean isOlder = true;
            for (int k = 0; k < plan.rightCount; k++) {
                int other = plan.rightOrder[k];
                isOlder = isOlder && other != right;
                otherShares[other] = isOlder ? byAge[other] : 0;
            }
            otherShares[right] = byAge[right] + 1;
        }

        private int youngestAtGate(int gate) {
            for (int k = plan.rightCount - 1; k >= 0; k--) {
                int right = plan.rightOrder[k];
                if (plan.isAtGate(right, gate) && otherShares[right] > 0) {
                    return right;
                }
            }
            return BY_DRYNESS;
        }

        private int youngestAtRest(int reach) {
            for (int k = plan.rightCount - 1; k >= 0; k--) {
                int right = plan.rightOrder[k];
                boolean isThere = plan.kind[right] == FISH && plan.place[right] == reach;
                if (isThere && otherShares[right] > flow.rest[reach]) {
                    return right;
                }
            }
            return BY_DRYNESS;
        }

        void writeCalls(StringBuilder text, int right) {
            if (plan.kind[right] == FISH || byPlace[right] >= wants[right]) {
                return;
            }
            for (int k = plan.rightCount - 1; k >= 0 && plan.rightOrder[k] != right; k--) {
                int younger = plan.rightOrder[k];
                if (byPlace[younger] > 0) {
                    if (text.length() > 0) {
                        text.append(' ');
                    }
                    text.append(younger).append(isFutile(right, younger) ? '-' : '+');
                }
            }
        }

        private boolean isFutile(int right, int younger) {
            setWantsWithout(younger);
            flow.shareByPlace(springs, otherWants, otherShares);
            return otherShares[right] <= byPlace[right];
        }

        private void setWantsWithout(int right) {
            System.arraycopy(wants, 0, otherWants, 0, RIGHT_ROWS);
            otherWants[right] = 0;
        }

        int tellYears(int right, int what) {
            if (what == 0) {
                return countFullYears(right);
            }
            int worst = worstYear(right);
            return what == 1 && worst != NONE ? inYears[worst][right] : worst;
        }

        private int countFullYears(int right) {
            int full = 0;
            for (int year = 0; year < valley.years.count(); year++) {
                if (inYears[year][right] >= wants[right]) {
                    full++;
                }
            }
            return full;
        }

        private int worstYear(int right) {
            int worst = NONE;
            for (int year = 0; year < valley.years.count(); year++) {
                if (worst == NONE || inYears[year][right] < inYears[worst][right]) {
                    worst = year;
                }
            }
            return worst;
        }

        void writeSurety(StringBuilder text, int right) {
            int got = 0;
            for (int year = 0; year < valley.years.count(); year++) {
                got += inYears[year][right];
            }
            int wanted = wants[right] * valley.years.count();
            if (wanted == 0) {
                text.append('-');
                return;
            }
            int divisor = greatestDivisor(got, wanted);
            text.append(got / divisor).append('/').append(wanted / divisor);
        }

        /** The greatest number that divides both; b is above 0. */
        private static int greatestDivisor(int a, int b) {
            for (int divisor = b; divisor > 1; divisor--) {
                if (a % divisor == 0 && b % divisor == 0) {
                    return divisor;
                }
            }
            return 1;
        }

        // What isSound() asks.

        boolean canFlow() {
            return flow.walk(springs, byAge) == NONE;
        }

        boolean goesDropByDrop() {
            for (int right = 0; right < plan.rightCount; right++) {
                otherShares[right] = 0;
            }
            for (int k = 0; k < plan.rightCount; k++) {
                int right = plan.rightOrder[k];
                addDrops(right);
                if (otherShares[right] != byAge[right]) {
                    return false;
                }
            }
            return true;
        }

        private void addDrops(int right) {
            for (int drops = 1; drops <= wants[right]; drops++) {
                otherShares[right] = drops;
                if (flow.walk(springs, otherShares) != NONE) {
                    otherShares[right] = drops - 1;
                    return;
                }
            }
        }

        boolean isDeafToYounger() {
            System.arraycopy(wants, 0, otherWants, 0, RIGHT_ROWS);
            for (int k = plan.rightCount - 1; k >= 0; k--) {
                int right = plan.rightOrder[k];
                shareByAge(springs, otherWants, otherShares);
                if (otherShares[right] != byAge[right]) {
                    return false;
                }
                otherWants[right] = 0;
            }
            return true;
        }

        boolean isBalanced(int[] shares) {
            if (flow.walk(springs, shares) != NONE) {
                return false;
            }
            int others = flow.balanceOf(USED, springs) + flow.balanceOf(LOST, springs)
                    + flow.balanceOf(KEPT, springs) + flow.balanceOf(LEAVES, springs);
            return flow.balanceOf(SPRINGS, springs) == others;
        }

        boolean hasFutileCallsAlone() {
            for (int k = 0; k < plan.rightCount; k++) {
                int right = plan.rightOrder[k];
                for (int j = k + 1; j < plan.rightCount && isShort(right); j++) {
                    setWantsWithout(plan.rightOrder[j]);
                    shareByAge(springs, otherWants, otherShares);
                    if (otherShares[right] != byAge[right]) {
                        return false;
                    }
                }
            }
            return true;
        }
    }

    /** The SLIP. */
    private static final class Paper {
        static final int LAST_DIGIT = 9;
        static final int SIGN_BLANK = 10;
        static final int SIGN_END = 11;
        static final int SIGN_G = 12;
        static final int SIGN_R = 13;
        static final int SIGN_F = 14;
        static final int LAST_SIGN = 14;
        private static final char[] CHARACTERS =
                {'0', '1', '2', '3', '4', '5', '6', '7', '8', '9', ' ', ';', 'g', 'r', 'f'};
        private static final int MOST_NUMBERS = 4;

        private final int[] signs = new int[MOST_SIGNS];
        private int count = 0;
        // The STATEMENT that was read last.
        int letter = 0;
        final int[] numbers = new int[MOST_NUMBERS];

        int count() {
            return count;
        }

        int write(int sign) {
            if (count < MOST_SIGNS) {
                signs[count] = sign;
                count++;
            }
            return count;
        }

        int clear() {
            int before = count;
            count = 0;
            return before;
        }

        void writeTo(StringBuilder text) {
            for (int place = 0; place < count; place++) {
                text.append(CHARACTERS[signs[place]]);
            }
        }

        private static int numbersBehind(int letter) {
            return letter == SIGN_G ? 4 : letter == SIGN_R ? 3 : 2;
        }

        int findFault() {
            boolean isInside = false;
            int due = 0;
            // How many digits of a number stand here; NONE if a blank is due ahead of its first one.
            int digits = NONE;
            for (int place = 0; place < count; place++) {
                int sign = signs[place];
                if (!isInside && sign >= SIGN_G) {
                    isInside = true;
                    due = numbersBehind(sign);
                    digits = NONE;
                } else if (isInside && sign <= LAST_DIGIT && (digits == 0 || digits == 1)) {
                    due -= digits == 0 ? 1 : 0;
                    digits++;
                } else if (isInside && sign == SIGN_BLANK && digits != 0 && due > 0) {
                    digits = 0;
                } else if (isInside && sign == SIGN_END && digits > 0 && due == 0) {
                    isInside = false;
                } else {
                    return place;
                }
            }
            return isInside ? count : NONE;
        }

        /** Reads the STATEMENT that begins at a place of a SLIP without a FAULT; answers the place behind it. */
        int readStatement(int start) {
            int nth = NONE;
            for (int place = start; place < count; place++) {
                int sign = signs[place];
                if (sign == SIGN_END) {
                    return place + 1;
                }
                if (sign == SIGN_BLANK) {
                    nth = Math.min(nth + 1, MOST_NUMBERS - 1);
                    numbers[nth] = 0;
                } else if (sign <= LAST_DIGIT && nth >= 0) {
                    numbers[nth] = numbers[nth] * 10 + sign;
                } else {
                    letter = sign;
                }
            }
            return count;
        }
    }
}
