/** The office of a town's holes: who may dig in which pieces of street, when and beside whom. */
public final class RoadWorks {
    public static final int NONE = -1, FULL = -2, STATE = -3;

    private static final int ABSENT = -5, RULE = -10;
    private static final int CROSSINGS = 20, PIECES = 40, PAIRS = 8, WORKS = 60, PIECES_OF_WORK = 4;
    private static final int DAYS = 400, LAST_DAY = 399;
    private static final int SMALL = 0, GREAT = 1, CRASH = 2, GUARANTEE = 3;
    private static final int ASKED = 0, PERMITTED = 1, BEGUN = 2, ENDED = 3, WITHDRAWN = 4;
    private static final int PRICE_OF_ASKED = 500;
    /** No day gives more delay than all works at their latest, so far fewer betterings than this are possible. */
    private static final int MOST_BETTERINGS = 1000000;

    private final Town town;
    private final Company company;
    private final Ways ways;
    private final Rules rules;
    private final Shifts shifts;
    private boolean whyKnown;
    private int whyDay;
    private int whyPlace;

    public RoadWorks() {
        town = new Town();
        company = new Company(town);
        ways = new Ways(town);
        rules = new Rules(town, company, ways);
        shifts = new Shifts(town, rules);
    }

    public int piece(int ends, int lanes, int rank, int minutes, int rest) {
        if (ends < 0 || !areCrossings(ends / 100, ends % 100)) return NONE;
        if (!within(lanes, 1, 4) || !within(rank, 0, 2)) return NONE;
        if (!within(minutes, 1, 30) || !within(rest, 0, 60)) return NONE;
        if (town.pieceCount >= PIECES) return FULL;
        Piece made = town.pieces[town.pieceCount];
        made.from = ends / 100;
        made.to = ends % 100;
        made.lanes = lanes;
        made.rank = rank;
        made.minutes = minutes;
        made.rest = rest;
        town.pieceCount++;
        return town.pieceCount - 1;
    }

    public int pair(int a, int b, int limit) {
        if (!areCrossings(a, b) || !within(limit, 1, 200)) return NONE;
        if (town.pairCount >= PAIRS) return FULL;
        Pair made = town.pairs[town.pairCount];
        made.from = a;
        made.to = b;
        made.limit = limit;
        town.pairCount++;
        return town.pairCount - 1;
    }

    public int feast(int day, int is) {
        if (!isDay(day) || !within(is, 0, 1)) return NONE;
        boolean was = town.feasts[day];
        town.feasts[day] = is == 1;
        return was ? 1 : 0;
    }

    public int work(int a, int b, int piece) {
        if (a < 0 || b < 0 || !town.hasPiece(piece)) return NONE;
        if (!within(a / 10000, 0, 9) || !within(a / 1000 % 10, SMALL, GUARANTEE)) return NONE;
        if (!within(a / 100 % 10, 1, 4) || !within(a % 100, 1, 30)) return NONE;
        if (!within(b / 1000, 1, 9) || !isDay(b % 1000)) return NONE;
        if (town.workCount >= WORKS) return FULL;
        Work made = town.works[town.workCount];
        made.house = a / 10000;
        made.sort = a / 1000 % 10;
        made.lanes = a / 100 % 10;
        made.days = a % 100;
        made.depth = b / 1000;
        made.wanted = b % 1000;
        made.take(piece);
        town.workCount++;
        return made.number;
    }

    public int more(int w, int piece) {
        if (!town.hasWork(w) || !town.hasPiece(piece)) return NONE;
        Work it = town.works[w];
        if (it.uses(piece)) return NONE;
        if (it.state != ASKED || it.partner >= 0) return STATE;
        if (it.size >= PIECES_OF_WORK) return FULL;
        it.take(piece);
        return it.size;
    }

    public int may(int w, int day) {
        int refusal = refusalOf(w, day);
        return refusal != 0 ? refusal : brokenFrom(town.works[w], day);
    }

    public int why(int what) {
        if (!whyKnown || !within(what, 0, 1)) return NONE;
        return what == 0 ? whyDay : whyPlace;
    }

    public int first(int w, int from, int n) {
        if (!within(n, 1, 200)) return NONE;
        int refusal = refusalOf(w, from);
        if (refusal != 0) return refusal;
        Work it = town.works[w];
        if (brokenFrom(it, from) == 0) return from;
        for (int d = from + 1; d < from + n && d <= LAST_DAY; d++) {
            if (rules.broken(it, d, 1) == 0) return d;
        }
        return ABSENT;
    }

    public int permit(int w, int day) {
        int refusal = refusalOf(w, day);
        if (refusal != 0) return refusal;
        int rule = brokenFrom(town.works[w], day);
        if (rule != 0) return RULE - rule;
        town.permitFrom(town.works[w], day);
        return 0;
    }

    public int withdraw(int w) {
        if (!town.hasWork(w)) return NONE;
        if (!town.works[w].isOpen()) return STATE;
        town.drop(town.works[w]);
        return 1;
    }

    public int day(int n) {
        if (!within(n, 1, 100) || town.today + n > LAST_DAY) return NONE;
        for (int i = 0; i < n; i++) town.passDay();
        return town.today;
    }

    public int over(int w, int n) {
        if (!town.hasWork(w) || !within(n, 1, 30)) return NONE;
        Work it = town.works[w];
        if (it.state != BEGUN) return STATE;
        int last = Math.min(LAST_DAY, it.last + n);
        it.over += last - it.last;
        it.last = last;
        return shifts.moveBroken();
    }

    public int crash(int w) {
        if (!town.hasWork(w)) return NONE;
        Work it = town.works[w];
        if (it.sort != CRASH || it.state != ASKED) return STATE;
        town.permitFrom(it, town.today);
        return shifts.moveBroken();
    }

    public int join(int a, int b) {
        if (!town.hasWork(a) || !town.hasWork(b) || a == b) return NONE;
        Work one = town.works[a];
        Work other = town.works[b];
        if (!one.canBeJoined() || !other.canBeJoined()) return STATE;
        if (one.house == other.house || one.depth == other.depth || one.mask != other.mask) return STATE;
        one.partner = b;
        other.partner = a;
        return 1;
    }

    public int about(int w, int what) {
        if (!town.hasWork(w)) return ABSENT;
        Work it = town.works[w];
        switch (what) {
            case 0: return it.state;
            case 1: return it.begin;
            case 2: return it.last;
            case 3: return it.over;
            case 4: return town.costAlone(it);
            case 5: return town.pays(it);
            case 6: return town.fine(it);
            case 7: return it.delay();
            case 8: return it.partner;
            case 9: return it.size;
            case 10: return it.moves;
            default: return ABSENT;
        }
    }

    public int lanes(int piece, int day) {
        if (!town.hasPiece(piece) || !isDay(day)) return NONE;
        company.gatherAll();
        company.survey(day);
        return company.taken[piece];
    }

    public int way(int pair, int day) {
        if (!town.hasPair(pair) || !isDay(day)) return NONE;
        company.gatherAll();
        return ways.fewest(town.pairs[pair], company.survey(day));
    }

    public int shut(int day) {
        if (!isDay(day)) return NONE;
        company.gatherAll();
        long closed = company.survey(day);
        int shutPairs = 0;
        for (int i = 0; i < town.pairCount; i++) {
            if (!ways.isOpen(town.pairs[i], closed)) shutPairs++;
        }
        return shutPairs;
    }

    public int price() {
        int sum = PRICE_OF_ASKED * town.worksIn(ASKED);
        for (int i = 0; i < town.workCount; i++) sum += town.works[i].delay();
        return sum;
    }

    public int better() {
        int times = 0;
        while (times < MOST_BETTERINGS && shifts.betterOne()) times++;
        return times;
    }

    public int book(int piece, int i) {
        if (!town.hasPiece(piece) || i < 0) return NONE;
        for (int w = 0; w < town.workCount; w++) {
            if (town.works[w].isBookedOn(piece) && town.bookedAhead(piece, town.works[w]) == i) return w;
        }
        return NONE;
    }

    public int count(int what) {
        switch (what) {
            case 0: return town.pieceCount;
            case 1: return town.pairCount;
            case 2: return town.workCount;
            case 3: return town.today;
            default: return within(what, 4, 8) ? town.worksIn(what - 4) : NONE;
        }
    }

    private static boolean within(int number, int least, int most) {
        return number >= least && number <= most;
    }

    private static boolean isDay(int day) {
        return within(day, 0, LAST_DAY);
    }

    private static boolean areCrossings(int a, int b) {
        return within(a, 0, CROSSINGS - 1) && within(b, 0, CROSSINGS - 1) && a != b;
    }

    /** The NONE or STATE for a work that can't be looked at from a day on, else 0. */
    private int refusalOf(int w, int day) {
        if (!town.hasWork(w) || !isDay(day)) return NONE;
        Work it = town.works[w];
        return it.isOpen() && it.sort != CRASH ? 0 : STATE;
    }

    /** The first rule that a work would break from a day on (0: none), kept for why(). */
    private int brokenFrom(Work it, int day) {
        rules.lookAt(it, WORKS);
        int rule = rules.broken(it, day, 1);
        if (rule != 0) {
            whyKnown = true;
            whyDay = rules.foundDay;
            whyPlace = rules.foundPlace;
        }
        return rule;
    }

    /** A piece of street between two crossings. */
    private static final class Piece {
        int from, to, lanes, rank, minutes, rest;
    }

    /** Two crossings between which a way must stay open. */
    private static final class Pair {
        int from, to, limit;
    }

    /** A work: what it was asked as, and where it stands. */
    private static final class Work {
        final int number;
        /** By number, so that the first one found is the least. */
        final int[] pieces = new int[PIECES_OF_WORK];
        int size;
        /** The same pieces, a bit each, to see at once what two works share. */
        long mask;
        int house, sort, lanes, days, depth, wanted;
        int state, begin, last, over, partner, moves;

        Work(int number) {
            this.number = number;
            begin = -1;
            last = -1;
            partner = -1;
        }

        void take(int piece) {
            if (size >= PIECES_OF_WORK) return;
            int at = size;
            while (at > 0 && pieces[at - 1] > piece) {
                pieces[at] = pieces[at - 1];
                at--;
            }
            pieces[at] = piece;
            mask |= 1L << piece;
            size++;
        }

        boolean uses(int piece) {
            return (mask & 1L << piece) != 0;
        }

        boolean isOpen() {
            return state == ASKED || state == PERMITTED;
        }

        boolean stands() {
            return state == PERMITTED || state == BEGUN || state == ENDED;
        }

        boolean canBeJoined() {
            return sort == GREAT && isOpen() && partner < 0;
        }

        boolean isBookedOn(int piece) {
            return (state == BEGUN || state == ENDED) && uses(piece);
        }

        int lastFrom(int day) {
            return Math.min(LAST_DAY, day + days - 1);
        }

        void placeAt(int day) {
            begin = day;
            last = lastFrom(day);
        }

        int notice() {
            return sort == SMALL ? 3 : sort == GREAT ? 30 : 0;
        }

        int delay() {
            return begin > wanted ? (begin - wanted) * lanes : 0;
        }
    }

    /** All that the office keeps. Every row is filled when it is made, so that none of them holds a null. */
    private static final class Town {
        final Piece[] pieces = new Piece[PIECES];
        final Pair[] pairs = new Pair[PAIRS];
        final Work[] works = new Work[WORKS];
        final boolean[] feasts = new boolean[DAYS];
        int pieceCount, pairCount, workCount, today;

        Town() {
            for (int i = 0; i < PIECES; i++) pieces[i] = new Piece();
            for (int i = 0; i < PAIRS; i++) pairs[i] = new Pair();
            for (int i = 0; i < WORKS; i++) works[i] = new Work(i);
        }

        boolean hasPiece(int number) {
            return number >= 0 && number < pieceCount;
        }

        boolean hasPair(int number) {
            return number >= 0 && number < pairCount;
        }

        boolean hasWork(int number) {
            return number >= 0 && number < workCount;
        }

        int worksIn(int state) {
            int found = 0;
            for (int i = 0; i < workCount; i++) {
                if (works[i].state == state) found++;
            }
            return found;
        }

        void permitFrom(Work it, int day) {
            it.placeAt(day);
            it.state = day == today ? BEGUN : PERMITTED;
        }

        void drop(Work it) {
            it.state = WITHDRAWN;
            it.begin = -1;
            it.last = -1;
            if (hasWork(it.partner)) works[it.partner].partner = -1;
            it.partner = -1;
        }

        void passDay() {
            today++;
            for (int i = 0; i < workCount; i++) {
                Work it = works[i];
                if (it.state == BEGUN && it.last < today) it.state = ENDED;
                if (it.state == PERMITTED && it.begin == today) it.state = BEGUN;
            }
        }

        int ranks(Work it) {
            int sum = 0;
            for (int k = 0; k < it.size; k++) sum += pieces[it.pieces[k]].rank;
            return sum;
        }

        int costAlone(Work it) {
            return it.days * (it.size * (20 + 5 * it.lanes) + 10 * ranks(it));
        }

        int fine(Work it) {
            return it.over * (10 * ranks(it) + 10);
        }

        int pays(Work it) {
            int alone = costAlone(it);
            if (!hasWork(it.partner)) return alone;
            int others = costAlone(works[it.partner]);
            int both = alone + others;
            if (both <= 0) return alone;
            int whole = Math.max(alone, others) + Math.min(alone, others) / 4;
            // The lesser number pays the rest that both divisions leave, so it is told by the other's share.
            return it.number < it.partner ? whole - others * whole / both : alone * whole / both;
        }

        /** How many works stand ahead of one in the book of a piece. */
        int bookedAhead(int piece, Work it) {
            int ahead = 0;
            for (int i = 0; i < workCount; i++) {
                Work other = works[i];
                if (!other.isBookedOn(piece)) continue;
                if (other.begin < it.begin || other.begin == it.begin && i < it.number) ahead++;
            }
            return ahead;
        }
    }

    /** The works that count when the net is looked at, or one work is looked at beside the others. */
    private static final class Company {
        private final Town town;
        private final boolean[] counted = new boolean[WORKS];
        private final int[] members = new int[WORKS];
        private int memberCount;
        /** The members that share a piece with the work that is looked at. */
        final int[] near = new int[WORKS];
        int nearCount;
        /** The lanes taken on each piece on the day of the latest survey. */
        final int[] taken = new int[PIECES];
        /** The lanes taken by the others on the k-th piece of a work, and what the work adds, by days. */
        final int[][] takenBeside = new int[PIECES_OF_WORK][DAYS];
        final int[] added = new int[DAYS];

        Company(Town town) {
            this.town = town;
        }

        void gatherAll() {
            gather(-1, 0L, WORKS);
        }

        /** All that stand but one (of a mask of pieces); of the PERMITTED ones only those below a number. */
        void gather(int except, long mask, int below) {
            memberCount = 0;
            nearCount = 0;
            for (int i = 0; i < town.workCount; i++) {
                Work other = town.works[i];
                counted[i] = i != except && other.stands() && (other.state != PERMITTED || i < below);
                if (!counted[i]) continue;
                members[memberCount] = i;
                memberCount++;
                if ((other.mask & mask) != 0) {
                    near[nearCount] = i;
                    nearCount++;
                }
            }
        }

        /** Counts the lanes taken on a day; answers the pieces that have none left, a bit each. */
        long survey(int day) {
            for (int p = 0; p < town.pieceCount; p++) taken[p] = 0;
            for (int i = 0; i < memberCount; i++) {
                Work other = town.works[members[i]];
                int lanes = lanesOf(other, day);
                for (int k = 0; k < other.size; k++) taken[other.pieces[k]] += lanes;
            }
            long closed = 0L;
            for (int p = 0; p < town.pieceCount; p++) {
                if (taken[p] >= town.pieces[p].lanes) closed |= 1L << p;
            }
            return closed;
        }

        /** Counts the lanes on a work's own pieces on the days that it would last. */
        void surveyBeside(Work it, int begin, int last) {
            for (int t = begin; t <= last; t++) {
                added[t] = lanesAddedBy(it, t);
                for (int k = 0; k < it.size; k++) takenBeside[k][t] = 0;
            }
            for (int i = 0; i < nearCount; i++) {
                Work other = town.works[near[i]];
                int until = Math.min(last, other.last);
                for (int t = Math.max(begin, other.begin); t <= until; t++) {
                    int lanes = lanesOf(other, t);
                    for (int k = 0; k < it.size; k++) {
                        if (other.uses(it.pieces[k])) takenBeside[k][t] += lanes;
                    }
                }
            }
        }

        /** What a member takes on a day: of two JOINED ones on the same day only the greater one takes lanes. */
        private int lanesOf(Work other, int day) {
            if (day < other.begin || day > other.last) return 0;
            int joined = other.partner;
            if (joined < 0 || joined >= town.workCount || !counted[joined]) return other.lanes;
            Work partner = town.works[joined];
            if (day < partner.begin || day > partner.last) return other.lanes;
            if (other.lanes != partner.lanes) return other.lanes > partner.lanes ? other.lanes : 0;
            return other.number < joined ? other.lanes : 0;
        }

        /** What the work that is looked at takes on a day besides what its JOINED one takes already. */
        private int lanesAddedBy(Work it, int day) {
            int joined = it.partner;
            if (joined < 0 || joined >= town.workCount || !counted[joined]) return it.lanes;
            Work partner = town.works[joined];
            if (day < partner.begin || day > partner.last) return it.lanes;
            return it.lanes > partner.lanes ? it.lanes - partner.lanes : 0;
        }
    }

    /** The shortest ways through the net. */
    private static final class Ways {
        private static final int FAR = 1000000;
        private final Town town;
        private final int[] minutes = new int[CROSSINGS];

        Ways(Town town) {
            this.town = town;
        }

        boolean isOpen(Pair pair, long closed) {
            int least = fewest(pair, closed);
            return least != ABSENT && least <= pair.limit;
        }

        /** The fewest minutes between a pair's crossings on the pieces that are not closed. */
        int fewest(Pair pair, long closed) {
            for (int c = 0; c < CROSSINGS; c++) minutes[c] = FAR;
            minutes[pair.from] = 0;
            boolean shorter = true;
            for (int round = 0; round < CROSSINGS && shorter; round++) {
                shorter = false;
                for (int p = 0; p < town.pieceCount; p++) {
                    if ((closed & 1L << p) != 0) continue;
                    Piece piece = town.pieces[p];
                    int there = minutes[piece.from] + piece.minutes;
                    int back = minutes[piece.to] + piece.minutes;
                    if (there < minutes[piece.to]) {
                        minutes[piece.to] = there;
                        shorter = true;
                    } else if (back < minutes[piece.from]) {
                        minutes[piece.from] = back;
                        shorter = true;
                    }
                }
            }
            return minutes[pair.to] < FAR ? minutes[pair.to] : ABSENT;
        }
    }

    /** The seven rules, looked at for one work beside a company. */
    private static final class Rules {
        private final Town town;
        private final Company company;
        private final Ways ways;
        /** Day and piece (of rule 7 the pair) of the rule that was found broken last. */
        int foundDay, foundPlace;

        Rules(Town town, Company company, Ways ways) {
            this.town = town;
            this.company = company;
            this.ways = ways;
        }

        /** From now on this work is looked at, beside the others (of the PERMITTED ones those below a number). */
        void lookAt(Work it, int below) {
            company.gather(it.number, it.mask, below);
        }

        /** The first rule, from one on, that the work broke if it began on a day; 0: none. */
        int broken(Work it, int day, int fromRule) {
            int last = it.lastFrom(day);
            if (fromRule <= 1 && isLateNotice(it, day)) return 1;
            if (fromRule <= 2 && isPastEnd(it, day)) return 2;
            if (isOnFeast(it, day, last)) return 3;
            company.surveyBeside(it, day, last);
            if (lacksLanes(it, day, last)) return 4;
            if (meetsDepth(it, day, last)) return 5;
            if (breaksRest(it, day, last)) return 6;
            if (blocksWay(it, day, last)) return 7;
            return 0;
        }

        private boolean found(int day, int place) {
            foundDay = day;
            foundPlace = place;
            return true;
        }

        private boolean isLateNotice(Work it, int day) {
            return day < town.today + it.notice() && found(day, it.pieces[0]);
        }

        private boolean isPastEnd(Work it, int day) {
            return day + it.days - 1 > LAST_DAY && found(DAYS, it.pieces[0]);
        }

        private boolean isOnFeast(Work it, int begin, int last) {
            for (int t = begin; t <= last; t++) {
                if (!town.feasts[t]) continue;
                for (int k = 0; k < it.size; k++) {
                    if (town.pieces[it.pieces[k]].rank == 2) return found(t, it.pieces[k]);
                }
            }
            return false;
        }

        private boolean lacksLanes(Work it, int begin, int last) {
            for (int t = begin; t <= last; t++) {
                for (int k = 0; k < it.size; k++) {
                    int together = company.takenBeside[k][t] + company.added[t];
                    if (together > town.pieces[it.pieces[k]].lanes) return found(t, it.pieces[k]);
                }
            }
            return false;
        }

        private boolean meetsDepth(Work it, int begin, int last) {
            int firstDay = DAYS;
            int leastPiece = PIECES;
            for (int i = 0; i < company.nearCount; i++) {
                Work other = town.works[company.near[i]];
                if (other.house == it.house || other.depth != it.depth || other.partner == it.number) continue;
                int day = Math.max(begin, other.begin);
                if (day > Math.min(last, other.last) || day > firstDay) continue;
                int piece = leastShared(it, other);
                if (day < firstDay || piece < leastPiece) leastPiece = piece;
                firstDay = day;
            }
            return firstDay < DAYS && found(firstDay, leastPiece);
        }

        private static int leastShared(Work it, Work other) {
            for (int k = 0; k < it.size; k++) {
                if (other.uses(it.pieces[k])) return it.pieces[k];
            }
            return PIECES;
        }

        private boolean breaksRest(Work it, int begin, int last) {
            for (int k = 0; k < it.size; k++) {
                int piece = it.pieces[k];
                int rest = town.pieces[piece].rest;
                for (int i = 0; i < company.nearCount; i++) {
                    Work other = town.works[company.near[i]];
                    if (!other.uses(piece)) continue;
                    if (it.sort != GUARANTEE && rests(other.last, rest, begin)) return found(begin, piece);
                    if (other.sort == GUARANTEE || other.state == ENDED) continue;
                    if (rests(last, rest, other.begin)) return found(begin, piece);
                }
            }
            return false;
        }

        /** Whether a piece rests on a day behind a last day. */
        private static boolean rests(int last, int rest, int day) {
            return last < day && last + rest >= day;
        }

        private boolean blocksWay(Work it, int begin, int last) {
            long ownBefore = 0L;
            long othersBefore = 0L;
            for (int t = begin; t <= last; t++) {
                long own = closedBy(it, t);
                if (own == 0L) continue;
                long others = company.survey(t);
                // Where the same pieces are closed as on a day looked at before, the ways are the same.
                if (own == ownBefore && others == othersBefore) continue;
                ownBefore = own;
                othersBefore = others;
                for (int p = 0; p < town.pairCount; p++) {
                    Pair pair = town.pairs[p];
                    if (!ways.isOpen(pair, others | own) && ways.isOpen(pair, others)) return found(t, p);
                }
            }
            return false;
        }

        /** The pieces that the work closes on a day and that the others leave open, a bit each. */
        private long closedBy(Work it, int day) {
            long closed = 0L;
            for (int k = 0; k < it.size; k++) {
                int lanes = town.pieces[it.pieces[k]].lanes;
                int taken = company.takenBeside[k][day];
                if (taken < lanes && taken + company.added[day] >= lanes) closed |= 1L << it.pieces[k];
            }
            return closed;
        }
    }

    /** Other days for works that are PERMITTED: the moves that others force, and those that make delays less. */
    private static final class Shifts {
        private static final int NOBODY = -1;
        private final Town town;
        private final Rules rules;
        /** The work that broke a rule beside the one looked at last: it mostly does so on the next day, too. */
        private int breaker = NOBODY;

        Shifts(Town town, Rules rules) {
            this.town = town;
            this.rules = rules;
        }

        /** Moves or withdraws all PERMITTED works that break a rule now: how many. */
        int moveBroken() {
            int moved = 0;
            for (int i = 0; i < town.workCount; i++) {
                Work it = town.works[i];
                if (it.state != PERMITTED) continue;
                rules.lookAt(it, i);
                if (rules.broken(it, it.begin, 3) == 0) continue;
                moveOn(it);
                moved++;
            }
            return moved;
        }

        private void moveOn(Work it) {
            for (int d = it.begin; d <= LAST_DAY; d++) {
                if (rules.broken(it, d, 2) != 0) continue;
                it.placeAt(d);
                it.moves++;
                return;
            }
            town.drop(it);
        }

        /** Gives the least work that can be bettered its least better day: whether there was one. */
        boolean betterOne() {
            for (int i = 0; i < town.workCount; i++) {
                Work it = town.works[i];
                if (it.state != PERMITTED || it.delay() == 0) continue;
                // The price is less just from a day ahead of now's; earlier than the notice none is free.
                for (int d = town.today + it.notice(); d < it.begin; d++) {
                    if (!fits(it, d)) continue;
                    town.permitFrom(it, d);
                    return true;
                }
            }
            return false;
        }

        /** Whether a PERMITTED work breaks no rule from a day on, and no other PERMITTED one with it there. */
        private boolean fits(Work it, int day) {
            int begin = it.begin;
            it.placeAt(day);
            // The breaker is asked ahead: while it breaks its rule, the work's own days needn't be looked at.
            boolean fitting = !breaksBeside(breaker, it);
            if (fitting) breaker = NOBODY;
            fitting = fitting && keepsRules(it, day);
            for (int i = 0; i < town.workCount && fitting; i++) {
                if (!breaksBeside(i, it)) continue;
                breaker = i;
                fitting = false;
            }
            it.placeAt(begin);
            return fitting;
        }

        private boolean keepsRules(Work it, int day) {
            rules.lookAt(it, WORKS);
            return rules.broken(it, day, 1) == 0;
        }

        private boolean breaksBeside(int number, Work it) {
            if (!town.hasWork(number) || number == it.number) return false;
            Work other = town.works[number];
            if (other.state != PERMITTED) return false;
            rules.lookAt(other, WORKS);
            return rules.broken(other, other.begin, 3) != 0;
        }
    }
}
