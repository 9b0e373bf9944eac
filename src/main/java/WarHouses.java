import java.util.Arrays;

/**
 * Houses after a war: acts, materials, building, lists of families, moves, rents and targets,
 * all as known in any week. The document DOC.md says what each call answers.
 */
public final class WarHouses {
    public static final int NONE = -1;

    private static final int NOTHING = -2_000_000_000;
    private static final int NEVER = 2_000_000_000;
    private static final int MUCH = 1_000_000_000;
    private static final long BROKEN = -4_000_000_000_000_000_000L;
    private static final int UNASKED = -2;

    private static final int CANNOT_BE = -1;
    private static final int NO_SUCH = -2;
    private static final int STANDS_AGAINST = -3;
    private static final int TWICE = -4;
    private static final int NO_ROOM = -5;
    private static final int BAD_TEXT = -6;

    private static final int WEEKS = 260;
    private static final int QUARTERS = 20;
    private static final int QUARTER_WEEKS = 13;
    private static final int COUNCILS = 6;
    private static final int KINDS = 3;
    private static final int HUT = 2;
    private static final int MATERIALS = 5;
    private static final int STAGES = 3;
    private static final int MOST_ROOMS = 6;
    private static final int MOST_LATE = 26;
    private static final int STREETS = 20;
    private static final int IMAGES = 3;

    private static final int MOST_ACTS = 24;
    private static final int MOST_CLAUSES = 16;
    private static final int MOST_PLOTS = 30;
    private static final int MOST_ENTRIES = 60;
    private static final int MOST_WISHES = 6;
    private static final int MOST_OFFERS = 100;
    private static final int MOST_SQUATS = 40;
    private static final int MOST_CHAIN = 10;

    // What a CLAUSE is about, one number for each that can count by itself.
    private static final int NEED = 0;
    private static final int WORK = 45;
    private static final int POINTS = 54;
    private static final int LICENCE = 55;
    private static final int RENT = 58;
    private static final int HUTS = 59;
    private static final int SQUAT = 60;
    private static final int FIRST = 61;
    private static final int STRIKE = 62;
    private static final int HEADS = 63;

    // The settings of a SUM, in the order of the words in PART_WORDS.
    private static final int SET_ROOMS = 0;
    private static final int SET_PERSONS = 1;
    private static final int SET_CHILDREN = 2;
    private static final int SET_ILL = 3;
    private static final int SET_WAITED = 4;
    private static final int SET_HAVE = 5;
    private static final int SET_WEEK = 6;
    private static final int SETTINGS = 7;

    private static final String HEAD_WORDS = "need work points licence rent huts squat first";
    private static final String KIND_WORDS = "brick steel hut";
    private static final String STAGE_WORDS = "base shell fit";
    private static final String MATERIAL_WORDS = "bricks timber steel coal kits";
    private static final String PART_WORDS = "rooms persons children ill waited have week";

    // What a SUM or TEST is worked out by: the sort in the low four bits, a number above them.
    private static final int CODE_NUMBER = 0;
    private static final int CODE_SETTING = 1;
    private static final int CODE_ADD = 2;
    private static final int CODE_SUBTRACT = 3;
    private static final int CODE_MULTIPLY = 4;
    private static final int CODE_DIVIDE = 5;
    private static final int CODE_LEAST = 6;
    private static final int CODE_MOST = 7;
    private static final int CODE_LESS = 8;
    private static final int CODE_MORE = 9;
    private static final int CODE_SAME = 10;
    private static final int CODE_NOT = 11;
    private static final int CODE_AND = 12;
    private static final int CODE_OR = 13;
    private static final int CODE_IF = 14;
    private static final int CODE_END = 15;
    private static final int CODE_BITS = 4;

    private static final int DELIVERY_MATERIAL = 0;
    private static final int DELIVERY_WEEK = 1;
    private static final int DELIVERY_AMOUNT = 2;
    private static final int DELIVERY_KNOWN = 3;

    private static final int WORK_ONE = 0;
    private static final int WORK_TAKES_ONE = 1;
    private static final int WORK_OTHER = 2;
    private static final int WORK_TAKES_OTHER = 3;
    private static final int WORK_GIVES = 4;
    private static final int WORK_MANY = 5;
    private static final int WORK_BATCHES = 6;
    private static final int WORK_FROM = 7;

    private static final int GANG_COUNCIL = 0;
    private static final int GANG_MANY = 1;
    private static final int GANG_FROM = 2;
    private static final int GANG_KNOWN = 3;

    private static final int PLOT_COUNCIL = 0;
    private static final int PLOT_KIND = 1;
    private static final int PLOT_ROOMS = 2;
    private static final int PLOT_CLEARED = 3;

    private static final int START_PLOT = 0;
    private static final int START_WEEK = 1;
    private static final int START_KNOWN = 2;

    private static final int ENTRY_COUNCIL = 0;
    private static final int ENTRY_WEEK = 1;
    private static final int ENTRY_PERSONS = 2;
    private static final int ENTRY_CHILDREN = 3;
    private static final int ENTRY_HAVE = 4;
    private static final int ENTRY_ILL = 5;
    private static final int ENTRY_KNOWN = 6;
    private static final int ENTRY_MARKS = 7;
    private static final int MARKS = 3;

    private static final int LODGER_PLOT = 0;
    private static final int LODGER_PERSONS = 1;
    private static final int LODGER_FROM = 2;
    private static final int LODGER_TO = 3;

    // A stay: from the WEEK of going in till the end that was known then, or till leaving.
    private static final int STAY_PLOT = 0;
    private static final int STAY_ENTRY = 1;
    private static final int STAY_FROM = 2;
    private static final int STAY_LIVES = 3;
    private static final int STAY_END = 4;
    private static final int STAY_LEFT = 5;
    private static final int STAY_CHAIN = 6;

    private final Told now = new Told();
    private final Told[] images = new Told[IMAGES];
    private final Reader reader = new Reader();
    private final Laws laws = new Laws(now);
    private final Yard yard = new Yard(now, laws);
    private final Run prompt = new Run();
    private final Run delayed = new Run();
    private final Choice choice = new Choice(now, yard);
    private final Lists lists = new Lists(now, laws);
    private final Homes homes = new Homes(now, laws, lists);
    private int refusal;
    private int faultAt = NONE;
    // What was worked out ahead of a change is not asked again behind it.
    private int buildings;
    private int listings;

    public WarHouses() {
    }

    // ---------------------------------------------------------------- the TAPE and the ACTS

    public int feed(int a, int b, int c, int d, int e) {
        if (!reader.hasRoom(20)) {
            return NONE;
        }
        reader.write(a);
        reader.write(b);
        reader.write(c);
        reader.write(d);
        reader.write(e);
        return reader.length;
    }

    public int end(int n) {
        if (n < 0 || n > reader.length) {
            return NONE;
        }
        reader.length = n;
        return n;
    }

    public int act(int from, int known) {
        int refusedBy = !isWeek(from) || !isWeek(known) ? CANNOT_BE : now.actCount >= MOST_ACTS ? NO_ROOM : 0;
        if (refusedBy == 0) {
            faultAt = reader.read();
            refusedBy = faultAt == NONE ? 0 : BAD_TEXT;
        }
        // The document keeps the TAPE for no refusal, so it is empty behind a TEXT that was not read, too.
        reader.length = 0;
        if (refusedBy != 0) {
            return answer(refusedBy);
        }
        int number = now.actCount;
        now.acts[number] = new Act(from, known, reader);
        now.actCount = number + 1;
        laws.reread();
        buildings++;
        return answer(number);
    }

    public int fault() {
        return faultAt;
    }

    public int force(int act, int clause, int week, int known) {
        if (!isIn(act, 0, now.actCount - 1) || !isWeek(week) || !isWeek(known)) {
            return NONE;
        }
        Act asked = now.acts[act];
        if (asked == null || !isIn(clause, 0, asked.clauses - 1)) {
            return NONE;
        }
        laws.settle(week, known);
        return laws.isForced(act, clause) ? 1 : 0;
    }

    public int counts(int kind, int week, int known) {
        if (!isIn(kind, 0, 5) || !isWeek(week) || !isWeek(known)) {
            return NONE;
        }
        laws.settle(week, known);
        laws.ask(0, week);
        if (kind < KINDS) {
            return laws.counted(LICENCE + kind);
        }
        return laws.counted(kind == 3 ? HUTS : kind == 4 ? SQUAT : FIRST);
    }

    public int need(int kind, int stage, int material, int rooms, int week, int known) {
        if (!isIn(kind, 0, KINDS - 1) || !isIn(stage, 0, STAGES - 1) || !isIn(material, 0, MATERIALS)
                || !isIn(rooms, 1, MOST_ROOMS) || !isWeek(week) || !isWeek(known)) {
            return NONE;
        }
        laws.settle(week, known);
        laws.ask(rooms, week);
        return Math.max(0, laws.counted(needHead(kind, stage, material)));
    }

    // ---------------------------------------------------------------- materials and building

    public int deliver(int material, int week, int amount, int known) {
        if (!isIn(material, 0, MATERIALS - 1) || !isWeek(week) || !isIn(amount, 1, 100_000) || !isWeek(known)) {
            return answer(CANNOT_BE);
        }
        if (now.deliveries.isFull()) {
            return answer(NO_ROOM);
        }
        int row = now.deliveries.add();
        now.deliveries.put(row, DELIVERY_MATERIAL, material);
        now.deliveries.put(row, DELIVERY_WEEK, week);
        now.deliveries.put(row, DELIVERY_AMOUNT, amount);
        now.deliveries.put(row, DELIVERY_KNOWN, known);
        buildings++;
        return answer(now.deliveries.rows());
    }

    public int works(int one, int takesOne, int other, int takesOther, int gives, int many, int batches, int from) {
        if (!isIn(one, 0, MATERIALS - 1) || !isIn(takesOne, 0, 1000) || !isIn(other, 0, MATERIALS - 1)
                || !isIn(takesOther, 0, 1000) || !isIn(gives, 0, MATERIALS - 1) || !isIn(many, 1, 10_000)
                || !isIn(batches, 0, 100) || !isWeek(from)) {
            return answer(CANNOT_BE);
        }
        if (now.works.isFull()) {
            return answer(NO_ROOM);
        }
        int row = now.works.add();
        now.works.put(row, WORK_ONE, one);
        now.works.put(row, WORK_TAKES_ONE, takesOne);
        now.works.put(row, WORK_OTHER, other);
        now.works.put(row, WORK_TAKES_OTHER, takesOther);
        now.works.put(row, WORK_GIVES, gives);
        now.works.put(row, WORK_MANY, many);
        now.works.put(row, WORK_BATCHES, batches);
        now.works.put(row, WORK_FROM, from);
        buildings++;
        return answer(row);
    }

    public int gangs(int council, int many, int from, int known) {
        if (!isIn(council, 0, COUNCILS - 1) || !isIn(many, 0, 50) || !isWeek(from) || !isWeek(known)) {
            return answer(CANNOT_BE);
        }
        if (now.gangs.isFull()) {
            return answer(NO_ROOM);
        }
        int row = now.gangs.add();
        now.gangs.put(row, GANG_COUNCIL, council);
        now.gangs.put(row, GANG_MANY, many);
        now.gangs.put(row, GANG_FROM, from);
        now.gangs.put(row, GANG_KNOWN, known);
        buildings++;
        return answer(now.gangs.rows());
    }

    public int plot(int council, int kind, int rooms, int cleared) {
        if (!isIn(council, 0, COUNCILS - 1) || !isIn(kind, 0, KINDS - 1) || !isIn(rooms, 1, MOST_ROOMS)
                || !isWeek(cleared)) {
            return answer(CANNOT_BE);
        }
        if (now.plots.isFull()) {
            return answer(NO_ROOM);
        }
        int row = now.plots.add();
        now.plots.put(row, PLOT_COUNCIL, council);
        now.plots.put(row, PLOT_KIND, kind);
        now.plots.put(row, PLOT_ROOMS, rooms);
        now.plots.put(row, PLOT_CLEARED, cleared);
        buildings++;
        return answer(row);
    }

    public int start(int plot, int week, int known) {
        if (!isWeek(week) || !isWeek(known)) {
            return answer(CANNOT_BE);
        }
        if (!isPlot(plot)) {
            return answer(NO_SUCH);
        }
        if (choice.isWished(plot)) {
            return answer(STANDS_AGAINST);
        }
        if (now.starts.isFull()) {
            return answer(NO_ROOM);
        }
        int row = now.starts.add();
        now.starts.put(row, START_PLOT, plot);
        now.starts.put(row, START_WEEK, week);
        now.starts.put(row, START_KNOWN, known);
        buildings++;
        return answer(now.starts.rows());
    }

    public int stock(int material, int week, int known, int late) {
        if (!isIn(material, 0, MATERIALS - 1) || !isWeek(week) || !isWeek(known) || !isIn(late, 0, MOST_LATE)) {
            return NONE;
        }
        return runFor(known, late).stocks[week * MATERIALS + material];
    }

    public int built(int plot, int known, int late, int what) {
        if (!isPlot(plot) || !isWeek(known) || !isIn(late, 0, MOST_LATE) || !isIn(what, 0, 6)) {
            return NONE;
        }
        Site site = runFor(known, late).site;
        if (what == 6) {
            return site.licensed[plot];
        }
        return what < STAGES ? site.over[plot * STAGES + what] : site.took[plot * STAGES + what - STAGES];
    }

    public int lacks(int plot, int week, int known) {
        if (!isPlot(plot) || !isWeek(week) || !isWeek(known)) {
            return NONE;
        }
        Run run = runFor(known, 0);
        if (run.isDoneBy(plot, week)) {
            return 0;
        }
        int started = firstStart(plot, known);
        if (started == NONE || started > week) {
            return 1;
        }
        if (run.site.licensed[plot] == 0) {
            return 2;
        }
        if (now.plots.at(plot, PLOT_CLEARED) > week) {
            return 3;
        }
        return run.site.waitsForNeeds(plot, week) ? 4 : 5;
    }

    public int knock(int known, int late) {
        if (!isWeek(known) || !isIn(late, 1, MOST_LATE)) {
            return NOTHING;
        }
        Run soon = runFor(known, 0);
        Run slow = runFor(known, late);
        int weeks = 0;
        for (int p = 0; p < now.plots.rows(); p++) {
            int done = soon.doneWeek(p);
            if (done != NONE) {
                int later = slow.doneWeek(p);
                weeks += (later == NONE ? WEEKS : later) - done;
            }
        }
        return weeks;
    }

    // ---------------------------------------------------------------- a QUARTER's choice

    public int wish(int plot) {
        if (!isPlot(plot)) {
            return answer(NO_SUCH);
        }
        if (firstStart(plot, WEEKS) != NONE) {
            return answer(STANDS_AGAINST);
        }
        if (choice.isWished(plot)) {
            return answer(TWICE);
        }
        if (choice.wished >= MOST_WISHES) {
            return answer(NO_ROOM);
        }
        choice.wishes[choice.wished] = plot;
        choice.wished++;
        return answer(choice.wished);
    }

    public int clear() {
        int wished = choice.wished;
        choice.wished = 0;
        return wished;
    }

    public int best(int quarter) {
        if (!isIn(quarter, 0, QUARTERS - 1)) {
            return NONE;
        }
        choice.openQuarter(quarter, knowing(quarter * QUARTER_WEEKS), buildings);
        choice.forget();
        // All ROWS, by those that begin at each of three times: what was played for one time serves all that go on from
        // there. No ROW has more HOUSED than the ROOMS that it begins.
        int all = (1 << choice.wished) - 1;
        for (int first = all; first >= 0; first--) {
            choice.playTime(0, first);
            for (int second = all; second >= 0; second--) {
                if ((second & first) != 0) {
                    continue;
                }
                choice.playTime(1, second);
                int begun = first | second;
                for (int third = all; third >= 0; third--) {
                    if ((third & begun) == 0 && choice.roomsOfAll(begun | third) >= choice.keptHoused) {
                        choice.playTime(2, third);
                        choice.keepIfBetter();
                    }
                }
            }
        }
        return choice.keptHoused;
    }

    public int chosen(int wish) {
        if (wish == NONE) {
            return choice.keptShells;
        }
        return isIn(wish, 0, choice.keptWishes - 1) ? choice.kept[wish] : NONE;
    }

    public int bound(int quarter) {
        if (!isIn(quarter, 0, QUARTERS - 1)) {
            return NONE;
        }
        choice.openQuarter(quarter, knowing(quarter * QUARTER_WEEKS), buildings);
        int rooms = 0;
        for (int i = 0; i < choice.wished; i++) {
            boolean inTime = false;
            for (int begun = 1; begun <= 3 && !inTime; begun++) {
                choice.tell(begun << 2 * i);
                inTime = choice.housedIn(choice.playRow()) > 0;
            }
            rooms += inTime ? choice.roomsOf(i) : 0;
        }
        return rooms;
    }

    public int judge(int quarter, int row) {
        if (!isIn(quarter, 0, QUARTERS - 1) || !isIn(row, 0, (1 << 2 * choice.wished) - 1)) {
            return NONE;
        }
        choice.openQuarter(quarter, knowing(quarter * QUARTER_WEEKS), buildings);
        choice.tell(row);
        Site site = choice.playRow();
        return choice.housedIn(site) * 10 + choice.shellsIn(site);
    }

    // ---------------------------------------------------------------- the COUNCILS' lists

    public int entry(int council, int week, int persons, int children, int have, int ill, int known) {
        if (!isIn(council, 0, COUNCILS - 1) || !isWeek(week) || !isIn(persons, 1, 20)
                || !isIn(children, 0, persons - 1) || !isIn(have, 0, 9) || !isIn(ill, 0, 1) || !isWeek(known)) {
            return answer(CANNOT_BE);
        }
        if (now.entries.isFull()) {
            return answer(NO_ROOM);
        }
        int row = now.entries.add();
        now.entries.put(row, ENTRY_COUNCIL, council);
        now.entries.put(row, ENTRY_WEEK, week);
        now.entries.put(row, ENTRY_PERSONS, persons);
        now.entries.put(row, ENTRY_CHILDREN, children);
        now.entries.put(row, ENTRY_HAVE, have);
        now.entries.put(row, ENTRY_ILL, ill);
        now.entries.put(row, ENTRY_KNOWN, known);
        for (int m = 0; m < MARKS; m++) {
            now.entries.put(row, ENTRY_MARKS + m, NONE);
        }
        listings++;
        return answer(row);
    }

    public int mark(int entry, int which, int mark) {
        if (!isIn(which, 0, MARKS - 1) || !isIn(mark, 0, 9999)) {
            return answer(CANNOT_BE);
        }
        if (!isEntry(entry)) {
            return answer(NO_SUCH);
        }
        if (now.entries.at(entry, ENTRY_MARKS + which) != NONE) {
            return answer(TWICE);
        }
        now.entries.put(entry, ENTRY_MARKS + which, mark);
        listings++;
        return answer(0);
    }

    public int family(int entry, int known) {
        if (!isWeek(known) || !isKnownEntry(entry, known)) {
            return NONE;
        }
        lists.join(known, listings);
        return lists.families[entry];
    }

    public int points(int entry, int week, int known) {
        if (!isWeek(week) || !isWeek(known) || !isKnownEntry(entry, known)) {
            return NOTHING;
        }
        laws.settle(week, known);
        return (int) Math.max(-MUCH, Math.min(MUCH, lists.weightOf(entry, week)));
    }

    public int order(int council, int week, int known, int i) {
        if (!isIn(council, 0, COUNCILS - 1) || !isWeek(week) || !isWeek(known)) {
            return NONE;
        }
        lists.sort(council, week, known);
        if (i == NONE) {
            return lists.sizes[council];
        }
        return isIn(i, 0, lists.sizes[council] - 1) ? lists.orders[council * MOST_ENTRIES + i] : NONE;
    }

    public int beside(int council, int week, int one, int other) {
        if (!isIn(council, 0, COUNCILS - 1) || !isWeek(week) || !isWeek(one) || !isWeek(other)) {
            return NONE;
        }
        return lists.turned(council, week, one, other);
    }

    // ---------------------------------------------------------------- moves and HOMES

    public int offer(int week) {
        if (!isMoveWeek(week)) {
            return answer(CANNOT_BE);
        }
        if (now.offers >= MOST_OFFERS) {
            return answer(NO_ROOM);
        }
        Run run = runFor(week, 0);
        lists.join(week, listings);
        lists.sortAll(week);
        homes.lookRound(week, run);
        int moves = homes.giveAll(week);
        now.offers++;
        now.moves += moves;
        now.lastWeek = week;
        return answer(moves);
    }

    public int lives(int plot, int week, int what) {
        if (!isPlot(plot) || !isWeek(week) || !isIn(what, 0, 2)) {
            return NONE;
        }
        int stay = homes.livedStay(plot, week);
        if (stay == NONE) {
            return NONE;
        }
        return now.stays.at(stay, what == 0 ? STAY_ENTRY : what == 1 ? STAY_FROM : STAY_CHAIN);
    }

    public int roof(int entry, int week) {
        if (!isWeek(week) || !isKnownEntry(entry, week)) {
            return NONE;
        }
        lists.join(week, listings);
        return homes.roofOf(lists.families[entry], week);
    }

    public int squat(int entry, int plot, int week) {
        if (!isMoveWeek(week)) {
            return answer(CANNOT_BE);
        }
        if (!isPlot(plot) || !isKnownEntry(entry, week)) {
            return answer(NO_SUCH);
        }
        Run run = runFor(week, 0);
        lists.join(week, listings);
        homes.lookRound(week, run);
        if (!homes.isFree(plot) || !homes.isRoofless(lists.families[entry])) {
            return answer(STANDS_AGAINST);
        }
        if (now.squats >= MOST_SQUATS) {
            return answer(NO_ROOM);
        }
        laws.settle(week, week);
        laws.ask(0, week);
        int waits = laws.counted(SQUAT);
        homes.goIn(entry, plot, week, waits == NONE ? NEVER : week + waits, 0);
        now.squats++;
        now.lastWeek = week;
        return answer(now.squats);
    }

    public int out(int plot, int week) {
        if (!isMoveWeek(week)) {
            return answer(CANNOT_BE);
        }
        if (!isPlot(plot)) {
            return answer(NO_SUCH);
        }
        int stay = homes.stayIn(plot, week);
        if (stay == NONE || homes.isLived(stay, week)) {
            return answer(STANDS_AGAINST);
        }
        now.stays.put(stay, STAY_LEFT, week);
        now.lastWeek = week;
        return answer(0);
    }

    public int rent(int plot, int week, int known) {
        if (!isPlot(plot) || !isWeek(week) || !isWeek(known)) {
            return NONE;
        }
        Run run = runFor(known, 0);
        if (!run.isDoneBy(plot, week) || homes.endOf(plot, run, known) <= week) {
            return NONE;
        }
        int stay = homes.livedStay(plot, week);
        laws.settle(week, known);
        laws.ask(now.plots.at(plot, PLOT_ROOMS), week);
        if (stay != NONE) {
            laws.askOf(now.stays.at(stay, STAY_ENTRY), 0);
        }
        return (int) Math.max(0, Math.min(MUCH, laws.total(RENT)));
    }

    public int lodge(int plot, int persons, int from, int to) {
        if (!isIn(persons, 1, 20) || !isWeek(from) || !isWeek(to) || to < from) {
            return answer(CANNOT_BE);
        }
        if (!isPlot(plot)) {
            return answer(NO_SUCH);
        }
        if (now.lodgers.isFull()) {
            return answer(NO_ROOM);
        }
        int row = now.lodgers.add();
        now.lodgers.put(row, LODGER_PLOT, plot);
        now.lodgers.put(row, LODGER_PERSONS, persons);
        now.lodgers.put(row, LODGER_FROM, from);
        now.lodgers.put(row, LODGER_TO, to);
        return answer(now.lodgers.rows());
    }

    public int under(int plot, int week) {
        if (!isPlot(plot) || !isWeek(week)) {
            return NONE;
        }
        int stay = homes.livedStay(plot, week);
        int persons = stay == NONE ? 0 : now.entries.at(now.stays.at(stay, STAY_ENTRY), ENTRY_PERSONS);
        for (int l = 0; l < now.lodgers.rows(); l++) {
            if (now.lodgers.at(l, LODGER_PLOT) == plot && now.lodgers.at(l, LODGER_FROM) <= week
                    && now.lodgers.at(l, LODGER_TO) >= week) {
                persons += now.lodgers.at(l, LODGER_PERSONS);
            }
        }
        return persons;
    }

    // ---------------------------------------------------------------- TARGETS and STREETS

    public int target(int council, int quarter, int homes) {
        if (!isCouncilQuarter(council, quarter) || !isIn(homes, 0, 10_000)) {
            return answer(CANNOT_BE);
        }
        now.targets[council * QUARTERS + quarter] = homes + 1;
        return answer(0);
    }

    public int claim(int council, int quarter, int street, int homes) {
        if (!isCouncilQuarter(council, quarter) || !isIn(street, 0, STREETS - 1) || !isIn(homes, 0, 1000)) {
            return answer(CANNOT_BE);
        }
        now.tellClaimed((council * QUARTERS + quarter) * STREETS + street, homes);
        return answer(0);
    }

    public int look(int council, int quarter, int street, int homes) {
        if (!isCouncilQuarter(council, quarter) || !isIn(street, 0, STREETS - 1) || !isIn(homes, 0, 1000)) {
            return answer(CANNOT_BE);
        }
        now.tellSeen((council * QUARTERS + quarter) * STREETS + street, homes);
        return answer(0);
    }

    public int truth(int council, int quarter, int what) {
        if (!isCouncilQuarter(council, quarter) || !isIn(what, 0, 4)) {
            return NONE;
        }
        int row = council * QUARTERS + quarter;
        int least = 0;
        int most = 0;
        int claimed = 0;
        for (int s = row * STREETS; s < (row + 1) * STREETS; s++) {
            int seen = now.seenIn(s);
            claimed += now.claimedIn(s);
            least += Math.max(0, seen);
            most += seen == NONE ? now.claimedIn(s) : seen;
        }
        int target = now.targets[row] - 1;
        switch (what) {
            case 0:
                return least;
            case 1:
                return most;
            case 2:
                return claimed;
            case 3:
                return target != NONE && least >= target ? 1 : 0;
            default:
                return most < claimed ? 1 : 0;
        }
    }

    // ---------------------------------------------------------------- IMAGES, counts, status

    public int image(int k) {
        if (!isIn(k, 0, IMAGES - 1)) {
            return answer(CANNOT_BE);
        }
        if (images[k] == null) {
            images[k] = new Told();
        }
        images[k].copyFrom(now);
        return answer(0);
    }

    public int back(int k) {
        if (!isIn(k, 0, IMAGES - 1)) {
            return answer(CANNOT_BE);
        }
        if (images[k] == null) {
            return answer(NO_SUCH);
        }
        now.copyFrom(images[k]);
        reader.length = 0;
        choice.wished = 0;
        laws.reread();
        buildings++;
        listings++;
        return answer(0);
    }

    public int count(int what) {
        switch (what) {
            case 0:
                return now.actCount;
            case 1:
                return now.deliveries.rows();
            case 2:
                return now.works.rows();
            case 3:
                return now.plots.rows();
            case 4:
                return now.starts.rows();
            case 5:
                return choice.wished;
            case 6:
                return now.entries.rows();
            case 7:
                return now.moves;
            case 8:
                return now.squats;
            case 9:
                return reader.length;
            default:
                return NONE;
        }
    }

    public int status() {
        return refusal;
    }

    // ---------------------------------------------------------------- help for the calls

    /** What a telling call answers is below 0 just if it was REFUSED. */
    private int answer(int value) {
        refusal = Math.min(value, 0);
        return value;
    }

    private static boolean isIn(int number, int least, int most) {
        return number >= least && number <= most;
    }

    private static boolean isWeek(int week) {
        return isIn(week, 0, WEEKS - 1);
    }

    private boolean isMoveWeek(int week) {
        return isWeek(week) && week >= now.lastWeek;
    }

    private static boolean isCouncilQuarter(int council, int quarter) {
        return isIn(council, 0, COUNCILS - 1) && isIn(quarter, 0, QUARTERS - 1);
    }

    private boolean isPlot(int plot) {
        return isIn(plot, 0, now.plots.rows() - 1);
    }

    private boolean isEntry(int entry) {
        return isIn(entry, 0, now.entries.rows() - 1);
    }

    private boolean isKnownEntry(int entry, int known) {
        return isEntry(entry) && now.entries.at(entry, ENTRY_KNOWN) <= known;
    }

    private static int needHead(int kind, int stage, int material) {
        int both = kind * STAGES + stage;
        return material == MATERIALS ? WORK + both : NEED + both * MATERIALS + material;
    }

    /** The WEEK of the START that counts. */
    private int firstStart(int plot, int known) {
        for (int s = 0; s < now.starts.rows(); s++) {
            if (now.starts.at(s, START_PLOT) == plot && now.starts.at(s, START_KNOWN) <= known) {
                return now.starts.at(s, START_WEEK);
            }
        }
        return NONE;
    }

    private Run runFor(int known, int late) {
        int latest = knowing(known);
        Run run = late == 0 ? prompt : delayed;
        if (!run.isOf(latest, late, buildings)) {
            yard.prepare(latest, late, buildings);
            run.open(latest, late, buildings);
            for (int w = 0; w < WEEKS; w++) {
                yard.passWeek(run.site, w);
                run.keepStock(w);
            }
        }
        return run;
    }

    /** The earliest WEEK in which just the same is known for a RUN: so one RUN serves many WEEKS. */
    private int knowing(int known) {
        int latest = 0;
        for (int a = 0; a < now.actCount; a++) {
            if (now.acts[a] != null && now.acts[a].known <= known) {
                latest = Math.max(latest, now.acts[a].known);
            }
        }
        latest = Math.max(latest, now.deliveries.greatest(DELIVERY_KNOWN, known));
        latest = Math.max(latest, now.gangs.greatest(GANG_KNOWN, known));
        return Math.max(latest, now.starts.greatest(START_KNOWN, known));
    }

    // ---------------------------------------------------------------- what was told

    /** Rows of numbers; the cells grow with the rows, so that a small object stays small. */
    private static final class Table {
        private final int width;
        private final int most;
        private int[] cells;
        private int rows;

        Table(int width, int most) {
            this.width = width;
            this.most = most;
            this.cells = new int[width * Math.min(most, 8)];
        }

        int rows() {
            return rows;
        }

        boolean isFull() {
            return rows >= most;
        }

        int at(int row, int column) {
            int i = row * width + column;
            return i >= 0 && i < cells.length ? cells[i] : 0;
        }

        void put(int row, int column, int value) {
            int i = row * width + column;
            if (i >= 0 && i < cells.length) {
                cells[i] = value;
            }
        }

        /** The number of a new row, whose cells the caller fills; NONE if there is no room. */
        int add() {
            if (rows >= most) {
                return NONE;
            }
            if ((rows + 1) * width > cells.length) {
                cells = Arrays.copyOf(cells, Math.min(most, (rows + 1) * 2) * width);
            }
            rows++;
            return rows - 1;
        }

        int greatest(int column, int limit) {
            int greatest = 0;
            for (int r = 0; r < rows; r++) {
                int value = at(r, column);
                if (value <= limit && value > greatest) {
                    greatest = value;
                }
            }
            return greatest;
        }

        void copyFrom(Table other) {
            if (cells.length < other.rows * width) {
                cells = new int[other.cells.length];
            }
            System.arraycopy(other.cells, 0, cells, 0, other.rows * width);
            rows = other.rows;
        }
    }

    /** All that was told and done: what an IMAGE keeps. */
    private static final class Told {
        private static final int STREET_BITS = 16;
        private static final int STREET_MASK = (1 << STREET_BITS) - 1;

        final Act[] acts = new Act[MOST_ACTS];
        int actCount;
        final Table deliveries = new Table(4, 120);
        final Table works = new Table(8, 8);
        final Table gangs = new Table(4, 60);
        final Table plots = new Table(4, MOST_PLOTS);
        final Table starts = new Table(3, 60);
        final Table entries = new Table(ENTRY_MARKS + MARKS, MOST_ENTRIES);
        final Table lodgers = new Table(4, 40);
        // Stays in one PLOT don't overlap, and empty ones are used again.
        final Table stays = new Table(7, MOST_PLOTS * (WEEKS + 1));
        // One more than told, so that 0 is "not told".
        final int[] targets = new int[COUNCILS * QUARTERS];
        private final int[] streets = new int[COUNCILS * QUARTERS * STREETS];
        int offers;
        int moves;
        int squats;
        int lastWeek;

        void tellClaimed(int street, int homes) {
            streets[street] = streets[street] & ~STREET_MASK | homes;
        }

        void tellSeen(int street, int homes) {
            streets[street] = streets[street] & STREET_MASK | (homes + 1) << STREET_BITS;
        }

        int claimedIn(int street) {
            return streets[street] & STREET_MASK;
        }

        int seenIn(int street) {
            return (streets[street] >> STREET_BITS) - 1;
        }

        void copyFrom(Told other) {
            for (int a = 0; a < MOST_ACTS; a++) {
                acts[a] = other.acts[a];
            }
            actCount = other.actCount;
            deliveries.copyFrom(other.deliveries);
            works.copyFrom(other.works);
            gangs.copyFrom(other.gangs);
            plots.copyFrom(other.plots);
            starts.copyFrom(other.starts);
            entries.copyFrom(other.entries);
            lodgers.copyFrom(other.lodgers);
            stays.copyFrom(other.stays);
            System.arraycopy(other.targets, 0, targets, 0, targets.length);
            System.arraycopy(other.streets, 0, streets, 0, streets.length);
            offers = other.offers;
            moves = other.moves;
            squats = other.squats;
            lastWeek = other.lastWeek;
        }
    }

    // ---------------------------------------------------------------- ACTS

    /** An ACT as it was read; it never changes, so IMAGES share it. */
    private static final class Act {
        final int from;
        final int known;
        final int clauses;
        final int[] heads;
        // Of "strike" the ACT times 16 and the CLAUSE.
        final int[] struck;
        // Where the code of each CLAUSE begins.
        final int[] begins;
        final int[] code;

        Act(int from, int known, Reader reader) {
            this.from = from;
            this.known = known;
            clauses = reader.clauses;
            heads = Arrays.copyOf(reader.heads, reader.clauses);
            struck = Arrays.copyOf(reader.struck, reader.clauses);
            begins = Arrays.copyOf(reader.begins, reader.clauses);
            code = Arrays.copyOf(reader.code, reader.size);
        }
    }

    /** The TAPE, and how a TEXT on it becomes CLAUSES. */
    private static final class Reader {
        private static final int MOST_BYTES = 400;
        private static final int MOST_PARTS = 60;
        private static final int MOST_BRACKETS = 8;
        private static final int MOST_NUMBER = 10_000;
        private static final int TOO_MUCH = 1_000_000;

        private static final int SORT_END = 0;
        private static final int SORT_WORD = 1;
        private static final int SORT_NUMBER = 2;
        private static final int SORT_SIGN = 3;

        private final int[] tape = new int[MOST_BYTES];
        int length;
        int clauses;
        final int[] heads = new int[MOST_CLAUSES];
        final int[] struck = new int[MOST_CLAUSES];
        final int[] begins = new int[MOST_CLAUSES];
        // No TOKEN gives more than one piece of code.
        final int[] code = new int[MOST_BYTES];
        int size;
        private int parts;
        // The TOKEN that comes next: where it begins, where it ends, its sort and number.
        private int token;
        private int tokenEnd;
        private int sort;
        private int number;

        boolean hasRoom(int bytes) {
            return length + bytes <= MOST_BYTES;
        }

        void write(int four) {
            for (int shift = 24; shift >= 0 && length < MOST_BYTES; shift -= 8) {
                tape[length] = four >> shift & 255;
                length++;
            }
        }

        /** NONE if the TEXT can be; else the place of the FAULT. Reading stops at the TOKEN that can't go on. */
        int read() {
            clauses = 0;
            size = 0;
            parts = 0;
            tokenEnd = 0;
            step();
            while (clauses < MOST_CLAUSES && readClause()) {
                clauses++;
                if (sort == SORT_END) {
                    return NONE;
                }
                if (!takeSign(';')) {
                    return token;
                }
            }
            return token;
        }

        private void step() {
            int at = tokenEnd;
            while (at < length && tape[at] == ' ') {
                at++;
            }
            token = at;
            number = 0;
            if (at >= length) {
                sort = SORT_END;
            } else if (isLetter(tape[at])) {
                sort = SORT_WORD;
                while (at < length && isLetter(tape[at])) {
                    at++;
                }
            } else if (isDigit(tape[at])) {
                sort = SORT_NUMBER;
                while (at < length && isDigit(tape[at])) {
                    number = Math.min(TOO_MUCH, number * 10 + tape[at] - '0');
                    at++;
                }
            } else {
                sort = SORT_SIGN;
                at++;
            }
            tokenEnd = at;
        }

        private static boolean isLetter(int b) {
            return b >= 'a' && b <= 'z';
        }

        private static boolean isDigit(int b) {
            return b >= '0' && b <= '9';
        }

        private boolean isSign(char sign) {
            return sort == SORT_SIGN && tape[token] == sign;
        }

        private boolean takeSign(char sign) {
            if (!isSign(sign)) {
                return false;
            }
            step();
            return true;
        }

        private boolean isWord(String word) {
            return wordIn(word) == 0;
        }

        /** Which word of a list (with blanks between) comes next; NONE if none does. */
        private int wordIn(String list) {
            int which = 0;
            int begin = 0;
            for (int i = 0; i <= list.length(); i++) {
                if (i == list.length() || list.charAt(i) == ' ') {
                    if (isSpelled(list, begin, i)) {
                        return which;
                    }
                    which++;
                    begin = i + 1;
                }
            }
            return NONE;
        }

        private boolean isSpelled(String list, int begin, int end) {
            if (sort != SORT_WORD || tokenEnd - token != end - begin) {
                return false;
            }
            for (int i = begin; i < end; i++) {
                if (tape[token + i - begin] != list.charAt(i)) {
                    return false;
                }
            }
            return true;
        }

        private int takeWord(String list) {
            int which = wordIn(list);
            if (which != NONE) {
                step();
            }
            return which;
        }

        private void emit(int code, int rest) {
            if (size < MOST_BYTES) {
                this.code[size] = code | rest << CODE_BITS;
                size++;
            }
        }

        private boolean readClause() {
            begins[clauses] = size;
            struck[clauses] = 0;
            if (isWord("strike")) {
                step();
                return readStrike();
            }
            if (!readHead()) {
                return false;
            }
            if (isWord("if")) {
                step();
                if (!readTest(0)) {
                    return false;
                }
                emit(CODE_IF, 0);
            }
            emit(CODE_END, 0);
            return true;
        }

        private boolean readStrike() {
            if (sort != SORT_NUMBER || number >= MOST_ACTS) {
                return false;
            }
            int act = number;
            step();
            if (!isWord("clause")) {
                return false;
            }
            step();
            if (sort != SORT_NUMBER || number >= MOST_CLAUSES) {
                return false;
            }
            heads[clauses] = STRIKE;
            struck[clauses] = act * MOST_CLAUSES + number;
            step();
            return true;
        }

        private boolean readHead() {
            int word = takeWord(HEAD_WORDS);
            boolean hasStage = word == 0 || word == 1;
            boolean hasKind = hasStage || word == 3 || word == 7;
            int kind = hasKind ? takeWord(KIND_WORDS) : 0;
            if (word == NONE || kind == NONE) {
                return false;
            }
            int stage = hasStage ? takeWord(STAGE_WORDS) : 0;
            if (stage == NONE) {
                return false;
            }
            int material = word == 0 ? takeWord(MATERIAL_WORDS) : MATERIALS;
            if (material == NONE) {
                return false;
            }
            heads[clauses] = hasStage ? needHead(kind, stage, material) : headOf(word, kind);
            if (word == 7) {
                emit(CODE_NUMBER, kind);
                return true;
            }
            return readSum(0);
        }

        private static int headOf(int word, int kind) {
            switch (word) {
                case 2:
                    return POINTS;
                case 3:
                    return LICENCE + kind;
                case 4:
                    return RENT;
                case 5:
                    return HUTS;
                case 6:
                    return SQUAT;
                default:
                    return FIRST;
            }
        }

        private boolean readTest(int depth) {
            if (!readBoth(depth)) {
                return false;
            }
            for (int i = 0; i < MOST_BYTES && isWord("or"); i++) {
                step();
                int jump = size;
                emit(CODE_OR, 0);
                if (!readBoth(depth)) {
                    return false;
                }
                code[jump] = CODE_OR | size << CODE_BITS;
            }
            return true;
        }

        private boolean readBoth(int depth) {
            if (!readPlain(depth)) {
                return false;
            }
            for (int i = 0; i < MOST_BYTES && isWord("and"); i++) {
                step();
                int jump = size;
                emit(CODE_AND, 0);
                if (!readPlain(depth)) {
                    return false;
                }
                code[jump] = CODE_AND | size << CODE_BITS;
            }
            return true;
        }

        private boolean readPlain(int depth) {
            boolean turned = false;
            for (int i = 0; i < MOST_BYTES && isWord("not"); i++) {
                step();
                turned = !turned;
            }
            if (isSign('(')) {
                if (!readBracket(depth)) {
                    return false;
                }
            } else {
                if (!readSum(depth)) {
                    return false;
                }
                int sign = isSign('<') ? CODE_LESS : isSign('>') ? CODE_MORE : isSign('=') ? CODE_SAME : NONE;
                if (sign == NONE) {
                    return false;
                }
                step();
                if (!readSum(depth)) {
                    return false;
                }
                emit(sign, 0);
            }
            if (turned) {
                emit(CODE_NOT, 0);
            }
            return true;
        }

        private boolean readBracket(int depth) {
            if (depth >= MOST_BRACKETS) {
                return false;
            }
            step();
            return readTest(depth + 1) && takeSign(')');
        }

        private boolean readSum(int depth) {
            if (!readTerm(depth)) {
                return false;
            }
            for (int i = 0; i < MOST_BYTES && (isSign('+') || isSign('-')); i++) {
                int sign = isSign('+') ? CODE_ADD : CODE_SUBTRACT;
                step();
                if (!readTerm(depth)) {
                    return false;
                }
                emit(sign, 0);
            }
            return true;
        }

        private boolean readTerm(int depth) {
            if (!readPart(depth)) {
                return false;
            }
            for (int i = 0; i < MOST_BYTES && (isSign('*') || isSign('/')); i++) {
                int sign = isSign('*') ? CODE_MULTIPLY : CODE_DIVIDE;
                step();
                if (!readPart(depth)) {
                    return false;
                }
                emit(sign, 0);
            }
            return true;
        }

        private boolean readPart(int depth) {
            if (sort == SORT_NUMBER) {
                return number <= MOST_NUMBER && takeLeaf(CODE_NUMBER, number);
            }
            int setting = wordIn(PART_WORDS);
            if (setting != NONE) {
                return takeLeaf(CODE_SETTING, setting);
            }
            if (depth >= MOST_BRACKETS) {
                return false;
            }
            if (takeSign('[')) {
                return readSum(depth + 1) && takeSign(']');
            }
            int two = takeWord("least most");
            if (two == NONE || !takeSign('[') || !readSum(depth + 1) || !takeSign(',')
                    || !readSum(depth + 1) || !takeSign(']')) {
                return false;
            }
            emit(two == 0 ? CODE_LEAST : CODE_MOST, 0);
            return true;
        }

        private boolean takeLeaf(int code, int rest) {
            if (parts >= MOST_PARTS) {
                return false;
            }
            parts++;
            emit(code, rest);
            step();
            return true;
        }
    }

    /** What is IN FORCE, and what counts of it. */
    private static final class Laws {
        private final Told told;
        // CLAUSES of one head in a chain from the last told to the first.
        private final int[] lastOf = new int[HEADS];
        private final int[] ahead = new int[MOST_ACTS * MOST_CLAUSES];
        private final int[] forced = new int[MOST_ACTS];
        private final int[] setting = new int[SETTINGS];
        private final long[] stack = new long[64];
        // The ACTS that stood when forced was worked out, as bits; NONE if it must be anew.
        private int settled = NONE;

        Laws(Told told) {
            this.told = told;
            Arrays.fill(lastOf, NONE);
        }

        void reread() {
            Arrays.fill(lastOf, NONE);
            for (int a = 0; a < told.actCount; a++) {
                Act act = told.acts[a];
                for (int c = 0; act != null && c < act.clauses; c++) {
                    int place = a * MOST_CLAUSES + c;
                    ahead[place] = lastOf[act.heads[c]];
                    lastOf[act.heads[c]] = place;
                }
            }
            settled = NONE;
        }

        /** Whatever is asked next is asked of this WEEK as known in that one. */
        void settle(int week, int known) {
            int standing = 0;
            for (int a = 0; a < told.actCount; a++) {
                Act act = told.acts[a];
                if (act != null && act.known <= known && act.from <= week) {
                    standing |= 1 << a;
                }
            }
            if (standing != settled) {
                settled = standing;
                findForced(standing);
            }
        }

        /** From the last to the first, as a "strike" must be known to stand ahead of what it strikes. */
        private void findForced(int standing) {
            Arrays.fill(forced, (1 << MOST_CLAUSES) - 1);
            for (int a = told.actCount - 1; a >= 0; a--) {
                Act act = told.acts[a];
                if (act == null || (standing >> a & 1) == 0) {
                    forced[a] = 0;
                } else {
                    for (int c = 0; c < act.clauses; c++) {
                        int struck = act.struck[c] / MOST_CLAUSES;
                        if (act.heads[c] == STRIKE && isForced(a, c) && struck < a) {
                            forced[struck] &= ~(1 << act.struck[c] % MOST_CLAUSES);
                        }
                    }
                }
            }
        }

        boolean isForced(int act, int clause) {
            return (forced[act] >> clause & 1) != 0;
        }

        void ask(int rooms, int week) {
            Arrays.fill(setting, 0);
            setting[SET_ROOMS] = rooms;
            setting[SET_WEEK] = week;
        }

        void askOf(int entry, int waited) {
            setting[SET_PERSONS] = told.entries.at(entry, ENTRY_PERSONS);
            setting[SET_CHILDREN] = told.entries.at(entry, ENTRY_CHILDREN);
            setting[SET_ILL] = told.entries.at(entry, ENTRY_ILL);
            setting[SET_HAVE] = told.entries.at(entry, ENTRY_HAVE);
            setting[SET_WAITED] = waited;
        }

        /** What counts of a head, 0 at least; NONE without. */
        int counted(int head) {
            int place = lastOf[head];
            for (int i = 0; i < ahead.length && place >= 0; i++) {
                long value = evaluate(place);
                if (value != BROKEN) {
                    return value < 0 ? 0 : (int) value;
                }
                place = ahead[place];
            }
            return NONE;
        }

        long total(int head) {
            long total = 0;
            int place = lastOf[head];
            for (int i = 0; i < ahead.length && place >= 0; i++) {
                long value = evaluate(place);
                if (value != BROKEN) {
                    total += value;
                }
                place = ahead[place];
            }
            return total;
        }

        /** The SUM (of "first" the KIND) of a CLAUSE that HOLDS; BROKEN of one that does not. */
        private long evaluate(int place) {
            Act act = told.acts[place / MOST_CLAUSES];
            if (act == null || !isForced(place / MOST_CLAUSES, place % MOST_CLAUSES)) {
                return BROKEN;
            }
            int[] code = act.code;
            int top = 0;
            for (int i = act.begins[place % MOST_CLAUSES]; i >= 0 && i < code.length; i++) {
                int sort = code[i] & (1 << CODE_BITS) - 1;
                int rest = code[i] >> CODE_BITS;
                if (sort <= CODE_SETTING) {
                    if (top >= stack.length) {
                        return BROKEN;
                    }
                    stack[top] = sort == CODE_NUMBER ? rest : setting[rest];
                    top++;
                } else if (sort < CODE_NOT) {
                    if (top < 2) {
                        return BROKEN;
                    }
                    top--;
                    stack[top - 1] = joined(sort, stack[top - 1], stack[top]);
                    if (stack[top - 1] == BROKEN) {
                        return BROKEN;
                    }
                } else if (top < 1) {
                    return BROKEN;
                } else if (sort == CODE_END) {
                    return stack[0];
                } else if (sort == CODE_NOT) {
                    stack[top - 1] = 1 - stack[top - 1];
                } else if (sort == CODE_IF && stack[top - 1] == 0) {
                    return BROKEN;
                } else if (sort != CODE_IF && (stack[top - 1] != 0) == (sort == CODE_OR)) {
                    // It can't matter what stands behind; on from there, and never back.
                    i = rest > i ? rest - 1 : i;
                } else {
                    top--;
                }
            }
            return BROKEN;
        }

        private static long joined(int sort, long one, long other) {
            long value;
            switch (sort) {
                case CODE_ADD:
                    value = one + other;
                    break;
                case CODE_SUBTRACT:
                    value = one - other;
                    break;
                case CODE_MULTIPLY:
                    value = one * other;
                    break;
                case CODE_DIVIDE:
                    value = other == 0 ? BROKEN : one / other;
                    break;
                case CODE_LEAST:
                    value = one < other ? one : other;
                    break;
                case CODE_MOST:
                    value = one > other ? one : other;
                    break;
                case CODE_LESS:
                    value = one < other ? 1 : 0;
                    break;
                case CODE_MORE:
                    value = one > other ? 1 : 0;
                    break;
                default:
                    value = one == other ? 1 : 0;
                    break;
            }
            return value > MUCH || value < -MUCH ? BROKEN : value;
        }
    }

    // ---------------------------------------------------------------- the RUN

    /** How far building has come at the end of a WEEK. */
    private static final class Site {
        final int[] stocks = new int[MATERIALS];
        // PLOTS that started and are LICENSED, by the WEEK of the START, then by number.
        final int[] line = new int[MOST_PLOTS];
        int lined;
        // LICENCES that were used in the QUARTER, by COUNCIL and KIND.
        final int[] used = new int[COUNCILS * KINDS];
        final int[] licensed = new int[MOST_PLOTS];
        final int[] stage = new int[MOST_PLOTS];
        // Gangs that the STAGE must still have; NONE while it has not its needs.
        final int[] lacking = new int[MOST_PLOTS];
        final int[] began = new int[MOST_PLOTS * STAGES];
        final int[] took = new int[MOST_PLOTS * STAGES];
        final int[] over = new int[MOST_PLOTS * STAGES];

        void empty() {
            Arrays.fill(stocks, 0);
            lined = 0;
            Arrays.fill(used, 0);
            Arrays.fill(licensed, 0);
            Arrays.fill(stage, 0);
            Arrays.fill(lacking, NONE);
            Arrays.fill(began, NONE);
            Arrays.fill(took, NONE);
            Arrays.fill(over, NONE);
        }

        void copyFrom(Site other, int plots) {
            System.arraycopy(other.stocks, 0, stocks, 0, MATERIALS);
            System.arraycopy(other.line, 0, line, 0, other.lined);
            lined = other.lined;
            System.arraycopy(other.used, 0, used, 0, used.length);
            System.arraycopy(other.licensed, 0, licensed, 0, plots);
            System.arraycopy(other.stage, 0, stage, 0, plots);
            System.arraycopy(other.lacking, 0, lacking, 0, plots);
            System.arraycopy(other.began, 0, began, 0, plots * STAGES);
            System.arraycopy(other.took, 0, took, 0, plots * STAGES);
            System.arraycopy(other.over, 0, over, 0, plots * STAGES);
        }

        boolean isDone(int plot) {
            return stage[plot] >= STAGES;
        }

        boolean isShell(int plot) {
            return !isDone(plot) && took[plot * STAGES] != NONE;
        }

        /** Whether the STAGE of a PLOT that isn't DONE had begun by a WEEK and not got its needs. */
        boolean waitsForNeeds(int plot, int week) {
            for (int i = plot * STAGES; i < (plot + 1) * STAGES; i++) {
                if (over[i] == NONE || over[i] > week) {
                    boolean hasBegun = began[i] != NONE && began[i] <= week;
                    return hasBegun && (took[i] == NONE || took[i] > week);
                }
            }
            return false;
        }

        void finishStage(int plot, int week) {
            over[plot * STAGES + stage[plot]] = week;
            stage[plot]++;
            lacking[plot] = NONE;
        }
    }

    /** A whole RUN, kept till something new is told. */
    private static final class Run {
        final Site site = new Site();
        final int[] stocks = new int[WEEKS * MATERIALS];
        private int known = NONE;
        private int late = NONE;
        private int buildings = NONE;

        boolean isOf(int known, int late, int buildings) {
            return this.known == known && this.late == late && this.buildings == buildings;
        }

        void open(int known, int late, int buildings) {
            this.known = known;
            this.late = late;
            this.buildings = buildings;
            site.empty();
        }

        void keepStock(int week) {
            System.arraycopy(site.stocks, 0, stocks, week * MATERIALS, MATERIALS);
        }

        int doneWeek(int plot) {
            return site.over[plot * STAGES + STAGES - 1];
        }

        boolean isDoneBy(int plot, int week) {
            return doneWeek(plot) != NONE && doneWeek(plot) <= week;
        }
    }

    /** What comes to the sites WEEK by WEEK as known in a WEEK, and how a WEEK passes there. */
    private static final class Yard {
        private static final int NEEDS = MATERIALS + 1;
        private static final int HOUSES = KINDS * STAGES * MOST_ROOMS;

        private final Told told;
        private final Laws laws;
        private int known = NONE;
        private int late = NONE;
        private int buildings = NONE;
        private final int[] arrivals = new int[WEEKS * MATERIALS];
        private final int[] gangs = new int[WEEKS * COUNCILS];
        private final int[] left = new int[COUNCILS];
        private final int[] startWeeks = new int[MOST_PLOTS];
        private final int[] startsIn = new int[WEEKS];
        private final int[] licences = new int[QUARTERS * KINDS];
        private final int[] firsts = new int[WEEKS];
        // Needs that were asked, of the latest 13 WEEKS: a choice asks for the same ones in every ROW.
        private final int[] needs = new int[QUARTER_WEEKS * HOUSES * NEEDS];
        private final int[] needsWeek = new int[QUARTER_WEEKS * HOUSES];

        Yard(Told told, Laws laws) {
            this.told = told;
            this.laws = laws;
        }

        void prepare(int known, int late, int buildings) {
            if (this.known == known && this.late == late && this.buildings == buildings) {
                return;
            }
            this.known = known;
            this.late = late;
            this.buildings = buildings;
            Arrays.fill(licences, UNASKED);
            Arrays.fill(firsts, UNASKED);
            Arrays.fill(needsWeek, NONE);
            bringDeliveries();
            bringGangs();
            bringStarts();
        }

        private void bringDeliveries() {
            Arrays.fill(arrivals, 0);
            for (int d = 0; d < told.deliveries.rows(); d++) {
                int material = told.deliveries.at(d, DELIVERY_MATERIAL);
                int week = told.deliveries.at(d, DELIVERY_WEEK) + (material == 0 ? late : 0);
                if (told.deliveries.at(d, DELIVERY_KNOWN) <= known && week < WEEKS) {
                    arrivals[week * MATERIALS + material] += told.deliveries.at(d, DELIVERY_AMOUNT);
                }
            }
        }

        private void bringGangs() {
            Arrays.fill(gangs, NONE);
            for (int g = 0; g < told.gangs.rows(); g++) {
                if (told.gangs.at(g, GANG_KNOWN) <= known) {
                    int place = told.gangs.at(g, GANG_FROM) * COUNCILS + told.gangs.at(g, GANG_COUNCIL);
                    gangs[place] = told.gangs.at(g, GANG_MANY);
                }
            }
            for (int i = 0; i < gangs.length; i++) {
                if (gangs[i] == NONE) {
                    gangs[i] = i < COUNCILS ? 0 : gangs[i - COUNCILS];
                }
            }
        }

        private void bringStarts() {
            Arrays.fill(startWeeks, NONE);
            Arrays.fill(startsIn, 0);
            for (int s = 0; s < told.starts.rows(); s++) {
                int plot = told.starts.at(s, START_PLOT);
                if (told.starts.at(s, START_KNOWN) <= known && startWeeks[plot] == NONE) {
                    tellStart(plot, told.starts.at(s, START_WEEK));
                }
            }
        }

        void tellStart(int plot, int week) {
            startWeeks[plot] = week;
            startsIn[week]++;
        }

        void dropStart(int plot) {
            if (startWeeks[plot] != NONE) {
                startsIn[startWeeks[plot]]--;
                startWeeks[plot] = NONE;
            }
        }

        void passWeek(Site site, int week) {
            for (int m = 0; m < MATERIALS; m++) {
                site.stocks[m] += arrivals[week * MATERIALS + m];
            }
            for (int w = 0; w < told.works.rows(); w++) {
                if (told.works.at(w, WORK_FROM) <= week) {
                    doBatches(site.stocks, w);
                }
            }
            lineUp(site, week);
            if (site.lined == 0) {
                return;
            }
            System.arraycopy(gangs, week * COUNCILS, left, 0, COUNCILS);
            int first = firstKind(week);
            for (int turn = 0; turn < 2; turn++) {
                for (int i = 0; i < site.lined; i++) {
                    int plot = site.line[i];
                    if ((told.plots.at(plot, PLOT_KIND) == first) == (turn == 0) && !site.isDone(plot)) {
                        serve(site, plot, week);
                    }
                }
            }
        }

        private void doBatches(int[] stocks, int work) {
            int one = told.works.at(work, WORK_ONE);
            int other = told.works.at(work, WORK_OTHER);
            int takesOne = told.works.at(work, WORK_TAKES_ONE);
            int takesOther = told.works.at(work, WORK_TAKES_OTHER);
            int batches = told.works.at(work, WORK_BATCHES);
            if (one == other) {
                takesOne += takesOther;
                takesOther = 0;
            }
            if (takesOne > 0) {
                batches = Math.min(batches, stocks[one] / takesOne);
            }
            if (takesOther > 0) {
                batches = Math.min(batches, stocks[other] / takesOther);
            }
            stocks[one] -= batches * takesOne;
            stocks[other] -= batches * takesOther;
            stocks[told.works.at(work, WORK_GIVES)] += batches * told.works.at(work, WORK_MANY);
        }

        /** STARTS come in the order of their WEEKS, so who comes later never takes a LICENCE from one ahead. */
        private void lineUp(Site site, int week) {
            if (week % QUARTER_WEEKS == 0) {
                Arrays.fill(site.used, 0);
            }
            for (int p = 0; startsIn[week] > 0 && p < told.plots.rows(); p++) {
                if (startWeeks[p] == week && site.lined < MOST_PLOTS) {
                    int kind = told.plots.at(p, PLOT_KIND);
                    int group = told.plots.at(p, PLOT_COUNCIL) * KINDS + kind;
                    int licences = licencesFor(kind, week / QUARTER_WEEKS);
                    if (licences == NONE || site.used[group] < licences) {
                        site.used[group]++;
                        site.licensed[p] = 1;
                        site.line[site.lined] = p;
                        site.lined++;
                    }
                }
            }
        }

        private int licencesFor(int kind, int quarter) {
            int place = quarter * KINDS + kind;
            if (licences[place] == UNASKED) {
                laws.settle(quarter * QUARTER_WEEKS, known);
                laws.ask(0, quarter * QUARTER_WEEKS);
                licences[place] = laws.counted(LICENCE + kind);
            }
            return licences[place];
        }

        private int firstKind(int week) {
            if (firsts[week] == UNASKED) {
                laws.settle(week, known);
                laws.ask(0, week);
                firsts[week] = laws.counted(FIRST);
            }
            return firsts[week];
        }

        private void serve(Site site, int plot, int week) {
            if (told.plots.at(plot, PLOT_CLEARED) > week) {
                return;
            }
            int council = told.plots.at(plot, PLOT_COUNCIL);
            int kind = told.plots.at(plot, PLOT_KIND);
            int rooms = told.plots.at(plot, PLOT_ROOMS);
            for (int stage = site.stage[plot]; stage < STAGES; stage++) {
                if (site.lacking[plot] == NONE && !takeNeeds(site, plot, week, needsAt(kind, stage, rooms, week))) {
                    return;
                }
                if (site.lacking[plot] > 0) {
                    if (left[council] > 0) {
                        left[council]--;
                        site.lacking[plot]--;
                        if (site.lacking[plot] == 0) {
                            site.finishStage(plot, week);
                        }
                    }
                    return;
                }
                site.finishStage(plot, week);
            }
        }

        private boolean takeNeeds(Site site, int plot, int week, int from) {
            int stage = plot * STAGES + site.stage[plot];
            if (site.began[stage] == NONE) {
                site.began[stage] = week;
            }
            for (int m = 0; m < MATERIALS; m++) {
                if (site.stocks[m] < needs[from + m]) {
                    return false;
                }
            }
            for (int m = 0; m < MATERIALS; m++) {
                site.stocks[m] -= needs[from + m];
            }
            site.took[stage] = week;
            site.lacking[plot] = needs[from + MATERIALS];
            return true;
        }

        private int needsAt(int kind, int stage, int rooms, int week) {
            int house = (kind * STAGES + stage) * MOST_ROOMS + rooms - 1;
            int place = week % QUARTER_WEEKS * HOUSES + house;
            if (needsWeek[place] != week) {
                needsWeek[place] = week;
                laws.settle(week, known);
                laws.ask(rooms, week);
                for (int m = 0; m < NEEDS; m++) {
                    needs[place * NEEDS + m] = Math.max(0, laws.counted(needHead(kind, stage, m)));
                }
            }
            return place * NEEDS;
        }
    }

    // ---------------------------------------------------------------- the choice

    /** WISHES, and ROWS of STARTS played out in a QUARTER. */
    private static final class Choice {
        private static final int TIMES = 3;
        private static final int BETWEEN = 4;

        private final Told told;
        private final Yard yard;
        final int[] wishes = new int[MOST_WISHES];
        int wished;
        private int firstWeek;
        // Ahead of the QUARTER all ROWS are one.
        private final Site before = new Site();
        private int beforeWeek = NONE;
        private int beforeBuildings = NONE;
        private final Site[] sites = new Site[TIMES];
        private final int[] row = new int[MOST_WISHES];
        final int[] kept = new int[MOST_WISHES];
        int keptWishes;
        int keptHoused = NONE;
        int keptShells = NONE;

        Choice(Told told, Yard yard) {
            this.told = told;
            this.yard = yard;
            for (int i = 0; i < TIMES; i++) {
                sites[i] = new Site();
            }
        }

        boolean isWished(int plot) {
            for (int i = 0; i < wished; i++) {
                if (wishes[i] == plot) {
                    return true;
                }
            }
            return false;
        }

        void openQuarter(int quarter, int known, int buildings) {
            firstWeek = quarter * QUARTER_WEEKS;
            yard.prepare(known, 0, buildings);
            if (beforeWeek != firstWeek || beforeBuildings != buildings) {
                beforeWeek = firstWeek;
                beforeBuildings = buildings;
                before.empty();
                for (int w = 0; w < firstWeek; w++) {
                    yard.passWeek(before, w);
                }
            }
        }

        void forget() {
            Arrays.fill(row, 0);
            keptHoused = NONE;
            keptShells = NONE;
            keptWishes = wished;
        }

        void tell(int bits) {
            for (int i = 0; i < MOST_WISHES; i++) {
                row[i] = bits >> 2 * i & 3;
            }
        }

        Site playRow() {
            Site site = sites[0];
            site.copyFrom(before, told.plots.rows());
            for (int time = 0; time < TIMES; time++) {
                tellStarts(time);
            }
            for (int w = firstWeek; w < firstWeek + QUARTER_WEEKS; w++) {
                yard.passWeek(site, w);
            }
            dropStarts();
            return site;
        }

        private void tellStarts(int time) {
            for (int i = 0; i < wished; i++) {
                if (row[i] == time + 1) {
                    yard.tellStart(wishes[i], firstWeek + time * BETWEEN);
                }
            }
        }

        private void dropStarts() {
            for (int i = 0; i < wished; i++) {
                yard.dropStart(wishes[i]);
            }
        }

        /** Some begin at this time and none later: played on from what was ahead of it till the next time. */
        void playTime(int time, int some) {
            putTime(time, some);
            int from = firstWeek + time * BETWEEN;
            int to = time == TIMES - 1 ? firstWeek + QUARTER_WEEKS : from + BETWEEN;
            sites[time].copyFrom(time == 0 ? before : sites[time - 1], told.plots.rows());
            tellStarts(time);
            for (int w = from; w < to; w++) {
                yard.passWeek(sites[time], w);
            }
            dropStarts();
        }

        private void putTime(int time, int some) {
            for (int i = 0; i < wished; i++) {
                if (isAmong(i, some)) {
                    row[i] = time + 1;
                } else if (row[i] > time) {
                    row[i] = 0;
                }
            }
        }

        private static boolean isAmong(int wish, int some) {
            return (some >> wish & 1) != 0;
        }

        int roomsOf(int wish) {
            return told.plots.at(wishes[wish], PLOT_ROOMS);
        }

        int roomsOfAll(int some) {
            int rooms = 0;
            for (int i = 0; i < wished; i++) {
                rooms += isAmong(i, some) ? roomsOf(i) : 0;
            }
            return rooms;
        }

        int housedIn(Site site) {
            int rooms = 0;
            for (int i = 0; i < wished; i++) {
                rooms += site.isDone(wishes[i]) ? roomsOf(i) : 0;
            }
            return rooms;
        }

        int shellsIn(Site site) {
            int shells = 0;
            for (int i = 0; i < wished; i++) {
                shells += site.isShell(wishes[i]) ? 1 : 0;
            }
            return shells;
        }

        void keepIfBetter() {
            int housed = housedIn(sites[TIMES - 1]);
            int shells = shellsIn(sites[TIMES - 1]);
            if (housed > keptHoused || housed == keptHoused
                    && (shells < keptShells || shells == keptShells && isRowAhead())) {
                keptHoused = housed;
                keptShells = shells;
                System.arraycopy(row, 0, kept, 0, MOST_WISHES);
            }
        }

        private boolean isRowAhead() {
            for (int i = 0; i < wished; i++) {
                if (row[i] != kept[i]) {
                    return row[i] < kept[i];
                }
            }
            return false;
        }
    }

    // ---------------------------------------------------------------- lists

    /** FAMILIES and ORDERS. */
    private static final class Lists {
        private final Told told;
        private final Laws laws;
        final int[] families = new int[MOST_ENTRIES];
        private int joinedKnown = NONE;
        private int joinedListings = NONE;
        final int[] orders = new int[COUNCILS * MOST_ENTRIES];
        final int[] sizes = new int[COUNCILS];
        private final long[] weights = new long[MOST_ENTRIES];
        private final int[] places = new int[MOST_ENTRIES];

        Lists(Told told, Laws laws) {
            this.told = told;
            this.laws = laws;
        }

        void join(int known, int listings) {
            if (joinedKnown == known && joinedListings == listings) {
                return;
            }
            joinedKnown = known;
            joinedListings = listings;
            for (int e = 0; e < told.entries.rows(); e++) {
                families[e] = told.entries.at(e, ENTRY_KNOWN) <= known ? e : NONE;
                for (int other = 0; other < e && families[e] != NONE; other++) {
                    if (families[other] != NONE && families[other] != families[e] && isAlike(e, other)) {
                        makeOne(families[other], families[e], e);
                    }
                }
            }
        }

        private void makeOne(int one, int other, int last) {
            int lowest = Math.min(one, other);
            for (int e = 0; e <= last; e++) {
                if (families[e] == one || families[e] == other) {
                    families[e] = lowest;
                }
            }
        }

        private boolean isAlike(int one, int other) {
            int same = 0;
            for (int m = ENTRY_MARKS; m < ENTRY_MARKS + MARKS; m++) {
                int mark = told.entries.at(one, m);
                int otherMark = told.entries.at(other, m);
                if (mark != NONE && otherMark != NONE) {
                    if (mark != otherMark) {
                        return false;
                    }
                    same++;
                }
            }
            return same >= 2;
        }

        /** POINTS by what is settled in the laws. */
        long weightOf(int entry, int week) {
            laws.ask(0, week);
            laws.askOf(entry, Math.max(0, week - told.entries.at(entry, ENTRY_WEEK)));
            return laws.total(POINTS);
        }

        void sortAll(int week) {
            for (int c = 0; c < COUNCILS; c++) {
                sort(c, week, week);
            }
        }

        void sort(int council, int week, int known) {
            laws.settle(week, known);
            int from = council * MOST_ENTRIES;
            int size = 0;
            for (int e = 0; e < told.entries.rows(); e++) {
                if (told.entries.at(e, ENTRY_COUNCIL) == council && told.entries.at(e, ENTRY_WEEK) <= week
                        && told.entries.at(e, ENTRY_KNOWN) <= known) {
                    weights[e] = weightOf(e, week);
                    int place = from + size;
                    while (place > from && isAhead(e, orders[place - 1])) {
                        orders[place] = orders[place - 1];
                        place--;
                    }
                    orders[place] = e;
                    size++;
                }
            }
            sizes[council] = size;
        }

        private boolean isAhead(int one, int other) {
            if (weights[one] != weights[other]) {
                return weights[one] > weights[other];
            }
            int week = told.entries.at(one, ENTRY_WEEK);
            int otherWeek = told.entries.at(other, ENTRY_WEEK);
            return week != otherWeek ? week < otherWeek : one < other;
        }

        /** Pairs that stand in one ORDER otherwise than in the other. */
        int turned(int council, int week, int known, int otherKnown) {
            int from = council * MOST_ENTRIES;
            sort(council, week, known);
            Arrays.fill(places, NONE);
            for (int i = 0; i < sizes[council]; i++) {
                places[orders[from + i]] = i;
            }
            sort(council, week, otherKnown);
            int pairs = 0;
            for (int i = 0; i < sizes[council]; i++) {
                int place = places[orders[from + i]];
                for (int j = 0; j < i && place != NONE; j++) {
                    if (places[orders[from + j]] > place) {
                        pairs++;
                    }
                }
            }
            return pairs;
        }
    }

    // ---------------------------------------------------------------- moves

    /** Who is in which PLOT, and how HOMES are given. */
    private static final class Homes {
        private final Told told;
        private final Laws laws;
        private final Lists lists;
        // As it stands in the WEEK that was looked at: the end of each HOME (0: it is none), the stay in each PLOT,
        // and by FAMILY the PLOT in which it lives and that in which it squats.
        private final int[] ends = new int[MOST_PLOTS];
        private final int[] inside = new int[MOST_PLOTS];
        private final int[] lived = new int[MOST_ENTRIES];
        private final int[] squatted = new int[MOST_ENTRIES];

        Homes(Told told, Laws laws, Lists lists) {
            this.told = told;
            this.laws = laws;
            this.lists = lists;
        }

        /** The WEEK from which on a PLOT that is DONE is no HOME. */
        int endOf(int plot, Run run, int known) {
            if (told.plots.at(plot, PLOT_KIND) != HUT) {
                return NEVER;
            }
            int done = run.doneWeek(plot);
            laws.settle(done, known);
            laws.ask(0, done);
            int stands = laws.counted(HUTS);
            return stands == NONE ? NEVER : done + stands;
        }

        boolean isLived(int stay, int week) {
            return told.stays.at(stay, STAY_LIVES) <= week;
        }

        int stayIn(int plot, int week) {
            for (int s = 0; s < told.stays.rows(); s++) {
                if (told.stays.at(s, STAY_PLOT) == plot && told.stays.at(s, STAY_FROM) <= week
                        && told.stays.at(s, STAY_END) > week && told.stays.at(s, STAY_LEFT) > week) {
                    return s;
                }
            }
            return NONE;
        }

        int livedStay(int plot, int week) {
            int stay = stayIn(plot, week);
            return stay != NONE && isLived(stay, week) ? stay : NONE;
        }

        int roofOf(int family, int week) {
            for (int p = 0; p < told.plots.rows(); p++) {
                int stay = livedStay(p, week);
                if (stay != NONE && lists.families[told.stays.at(stay, STAY_ENTRY)] == family) {
                    return p;
                }
            }
            return NONE;
        }

        void lookRound(int week, Run run) {
            for (int p = 0; p < told.plots.rows(); p++) {
                int end = run.isDoneBy(p, week) ? endOf(p, run, week) : 0;
                ends[p] = end > week ? end : 0;
                inside[p] = stayIn(p, week);
            }
            findRoofs(week);
        }

        private void findRoofs(int week) {
            Arrays.fill(lived, NONE);
            Arrays.fill(squatted, NONE);
            for (int p = told.plots.rows() - 1; p >= 0; p--) {
                int family = inside[p] == NONE ? NONE : lists.families[told.stays.at(inside[p], STAY_ENTRY)];
                if (family != NONE) {
                    if (isLived(inside[p], week)) {
                        lived[family] = p;
                    } else {
                        squatted[family] = p;
                    }
                }
            }
        }

        boolean isFree(int plot) {
            return ends[plot] > 0 && inside[plot] == NONE;
        }

        boolean isRoofless(int family) {
            return lived[family] == NONE && squatted[family] == NONE;
        }

        int giveAll(int week) {
            int moves = 0;
            for (int p = 0; p < told.plots.rows(); p++) {
                moves += giveInChain(p, week);
            }
            return moves;
        }

        private int giveInChain(int first, int week) {
            int plot = first;
            for (int moves = 0; moves < MOST_CHAIN; moves++) {
                int entry = plot != NONE && isFree(plot) ? firstFor(plot) : NONE;
                if (entry == NONE) {
                    return moves;
                }
                int family = lists.families[entry];
                int freed = lived[family] != NONE ? lived[family] : squatted[family];
                leave(lived[family], week);
                leave(squatted[family], week);
                goIn(entry, plot, week, week, moves);
                findRoofs(week);
                plot = freed;
            }
            return MOST_CHAIN;
        }

        private int firstFor(int plot) {
            int rooms = told.plots.at(plot, PLOT_ROOMS);
            int council = told.plots.at(plot, PLOT_COUNCIL);
            for (int i = 0; i < lists.sizes[council]; i++) {
                int entry = lists.orders[council * MOST_ENTRIES + i];
                int family = lists.families[entry];
                int roof = family == NONE ? NONE : lived[family];
                boolean wants = roof == NONE || told.plots.at(roof, PLOT_ROOMS) < rooms;
                if (family != NONE && wants && told.entries.at(entry, ENTRY_PERSONS) <= 2 * rooms) {
                    return entry;
                }
            }
            return NONE;
        }

        private void leave(int plot, int week) {
            if (plot != NONE) {
                told.stays.put(inside[plot], STAY_LEFT, week);
                inside[plot] = NONE;
            }
        }

        void goIn(int entry, int plot, int week, int lives, int chain) {
            int stay = emptyStay();
            told.stays.put(stay, STAY_PLOT, plot);
            told.stays.put(stay, STAY_ENTRY, entry);
            told.stays.put(stay, STAY_FROM, week);
            told.stays.put(stay, STAY_LIVES, lives);
            told.stays.put(stay, STAY_END, ends[plot]);
            told.stays.put(stay, STAY_LEFT, NEVER);
            told.stays.put(stay, STAY_CHAIN, chain);
            inside[plot] = stay;
        }

        /** One that was left in the WEEK in which it began tells nothing any more. */
        private int emptyStay() {
            for (int s = 0; s < told.stays.rows(); s++) {
                if (told.stays.at(s, STAY_FROM) == told.stays.at(s, STAY_LEFT)) {
                    return s;
                }
            }
            return told.stays.add();
        }
    }
}
