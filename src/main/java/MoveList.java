/**
 * The legal moves of chess: of any position that is set up, all moves that the side to move may
 * make, in order; moves are made and taken back, and the moves of all lines down to a depth are
 * counted.
 */
public final class MoveList {
    public static final int NONE = -1;

    private static final int SQUARES = 64;
    private static final int PIECES = 13;
    private static final int PAWN = 1;
    private static final int KNIGHT = 2;
    private static final int BISHOP = 3;
    private static final int ROOK = 4;
    private static final int QUEEN = 5;
    private static final int KING = 6;
    /** A black piece is the white one and this. */
    private static final int BLACK = 6;
    private static final int ALL_RIGHTS = 15;

    private static final int TAKES = 1;
    private static final int IN_PASSING = 2;
    private static final int CASTLES = 4;
    private static final int PROMOTES = 8;
    private static final int GIVES_CHECK = 16;
    private static final int LEAVES_NONE = 32;

    private static final int MOST_DEPTH = 3;
    private static final int MOST_MADE = 200;
    /** Looking ahead makes moves on top of those that were made, two at the most. */
    private static final int ROOM_MADE = MOST_MADE + 4;
    /**
     * No position has more than 680 moves: a piece has 27 at the most, and a square is reached on
     * eight lines and by eight knights, but for the last rank (nine more on each of its squares).
     * With up to 25 pieces that makes 27 * 25, with 26 or more 16 * (64 - 26) + 72.
     */
    private static final int ROOM_MOVES = 700;

    private final Sight sight;
    private final Position position;
    private final Moves list;
    /** The moves behind one of the list, while lines are counted. */
    private final Moves ahead;
    /** Whether open and list are those of the position as it stands. */
    private boolean known;
    private boolean open;

    public MoveList() {
        sight = new Sight();
        position = sight.position;
        list = new Moves();
        ahead = new Moves();
        known = false;
        open = false;
    }

    public void clear() {
        position.empty();
        setUpAnew();
    }

    public void begin() {
        position.layOut();
        setUpAnew();
    }

    public void put(int square, int piece) throws IndexOutOfBoundsException, IllegalArgumentException {
        if (!isSquare(square)) {
            throw new IndexOutOfBoundsException("no such square");
        }
        if (!isPiece(piece)) {
            throw new IllegalArgumentException("no such piece");
        }
        position.set(square, piece);
        setUpAnew();
    }

    public void state(int side, int rights, int passing) throws IllegalArgumentException {
        if (side != 0 && side != 1) {
            throw new IllegalArgumentException("no such side");
        }
        if (rights < 0 || rights > ALL_RIGHTS) {
            throw new IllegalArgumentException("no such rights");
        }
        if (passing != NONE && !isSquare(passing)) {
            throw new IllegalArgumentException("passing is neither a square nor none");
        }
        position.side = side;
        position.rights = rights;
        position.passing = passing;
        setUpAnew();
    }

    public boolean playable() {
        return position.canBePlayed();
    }

    public int count() throws IllegalStateException {
        needList();
        return list.size;
    }

    public int move(int i) throws IllegalStateException, IndexOutOfBoundsException {
        needList();
        if (i < 0 || i >= list.size) {
            throw new IndexOutOfBoundsException("no such move in the list");
        }
        return list.get(i);
    }

    public int place(int move) throws IllegalStateException {
        needList();
        return list.placeOf(move);
    }

    public int on(int square, boolean which) throws IllegalStateException {
        needList();
        int found = 0;
        for (int i = 0; i < list.size; i++) {
            int move = list.get(i);
            int end = which ? fromOf(move) : toOf(move);
            if (end == square) {
                found++;
            }
        }
        return found;
    }

    public int kind(int move) throws IllegalStateException, IllegalArgumentException {
        needList();
        if (list.placeOf(move) == NONE) {
            throw new IllegalArgumentException("not a legal move");
        }
        int deeds = position.deedsOf(move);
        position.play(move);
        if (position.kingIsAttacked(position.side)) {
            deeds += GIVES_CHECK;
        }
        if (sight.tally() == 0) {
            deeds += LEAVES_NONE;
        }
        position.takeBack();
        return deeds;
    }

    public long lines(int depth) throws IllegalStateException, IllegalArgumentException {
        needList();
        if (depth < 0 || depth > MOST_DEPTH) {
            throw new IllegalArgumentException("no such depth");
        }
        if (depth == 0) {
            return 1;
        }
        return depth == 1 ? list.size : countBehind(list, depth - 1);
    }

    public int make(int move)
            throws IllegalStateException, IllegalArgumentException, UnsupportedOperationException {
        needList();
        if (list.placeOf(move) == NONE) {
            throw new IllegalArgumentException("not a legal move");
        }
        if (position.made >= MOST_MADE) {
            throw new UnsupportedOperationException("no more moves can be taken back");
        }
        position.play(move);
        known = false;
        needList();
        return list.size;
    }

    public int unmake() {
        int move = position.takeBack();
        if (move != NONE) {
            known = false;
        }
        return move;
    }

    public int at(int square) {
        return isSquare(square) ? position.pieceOn(square) : NONE;
    }

    public boolean check() throws IllegalStateException {
        needList();
        return position.kingIsAttacked(position.side);
    }

    public long pinned() throws IllegalStateException {
        needList();
        return sight.pinnedSquares();
    }

    public int look(int which) {
        switch (which) {
            case 0:
                return position.side;
            case 1:
                return position.rights;
            case 2:
                return position.passing;
            case 3:
                return position.made;
            default:
                return NONE;
        }
    }

    private void setUpAnew() {
        position.made = 0;
        known = false;
    }

    /** The list is kept until the position changes: most calls ask for it again. */
    private void needList() {
        if (!known) {
            open = position.canBePlayed();
            list.size = 0;
            if (open) {
                sight.fill(list);
            }
            known = true;
        }
        if (!open) {
            throw new IllegalStateException("the position can not be played");
        }
    }

    /** The sum, over the moves of a row, of the count to a depth (1 or 2) behind them. */
    private long countBehind(Moves row, int depth) {
        long sum = 0;
        for (int i = 0; i < row.size; i++) {
            position.play(row.get(i));
            if (depth > 1) {
                sight.fill(ahead);
                sum += countBehind(ahead, 1);
            } else {
                sum += sight.tally();
            }
            position.takeBack();
        }
        return sum;
    }

    private static boolean isSquare(int square) {
        return square >= 0 && square < SQUARES;
    }

    private static boolean isPiece(int piece) {
        return piece >= 0 && piece < PIECES;
    }

    private static int typeOf(int piece) {
        return piece > BLACK ? piece - BLACK : piece;
    }

    private static int fromOf(int move) {
        return move & 63;
    }

    private static int toOf(int move) {
        return move >> 6 & 63;
    }

    private static int becomesOf(int move) {
        return move >> 12;
    }

    private static long bit(int square) {
        return 1L << square;
    }

    private static int squareOf(long bit) {
        return Long.bitCount(bit - 1);
    }

    /** A row of moves that is made once and filled again and again. */
    private static final class Moves {
        private final int[] moves;
        int size;

        Moves() {
            moves = new int[ROOM_MOVES];
            size = 0;
        }

        void add(int move) {
            if (size >= 0 && size < moves.length) {
                moves[size] = move;
                size++;
            }
        }

        int get(int i) {
            return i >= 0 && i < size && i < moves.length ? moves[i] : NONE;
        }

        int placeOf(int move) {
            for (int i = 0; i < size; i++) {
                if (get(i) == move) {
                    return i;
                }
            }
            return NONE;
        }
    }

    /** What pieces attack. A set of squares is a long, square s its bit s. */
    private static final class Attacks {
        private static final long NOT_FILE_A = 0xFEFEFEFEFEFEFEFEL;
        private static final long NOT_FILE_B = 0xFDFDFDFDFDFDFDFDL;
        private static final long NOT_FILE_G = 0xBFBFBFBFBFBFBFBFL;
        private static final long NOT_FILE_H = 0x7F7F7F7F7F7F7F7FL;

        /** The first four ways are a rook's, the other four a bishop's. */
        static final int WAYS = 8;
        static final int STRAIGHT_WAYS = 4;
        private static final int[] STEP = {8, -8, 1, -1, 9, 7, -7, -9};
        /** From where a step stays on the board: a step over the side would come to another rank. */
        private static final long[] INSIDE = {
            -1L, -1L, NOT_FILE_H, NOT_FILE_A, NOT_FILE_H, NOT_FILE_A, NOT_FILE_H, NOT_FILE_A
        };

        /** From all squares of a set at once, each as far as the first square that is full. */
        static long ray(long from, long full, int way) {
            if (way < 0 || way >= WAYS) {
                return 0;
            }
            int step = STEP[way];
            long inside = INSIDE[way];
            long front = from;
            long seen = 0;
            for (int n = 0; n < 7 && front != 0; n++) {
                front &= inside;
                front = step > 0 ? front << step : front >>> -step;
                seen |= front;
                front &= ~full;
            }
            return seen;
        }

        static long slide(int type, long from, long full) {
            int first = type == BISHOP ? STRAIGHT_WAYS : 0;
            int end = type == ROOK ? STRAIGHT_WAYS : WAYS;
            long seen = 0;
            for (int way = first; way < end; way++) {
                seen |= ray(from, full, way);
            }
            return seen;
        }

        static long ofPawns(long pawns, int side) {
            long left = pawns & NOT_FILE_A;
            long right = pawns & NOT_FILE_H;
            return side == 0 ? left << 7 | right << 9 : left >>> 9 | right >>> 7;
        }

        static long ofKnights(long knights) {
            long left = (knights & NOT_FILE_A) >>> 1;
            long right = (knights & NOT_FILE_H) << 1;
            long farLeft = (knights & NOT_FILE_A & NOT_FILE_B) >>> 2;
            long farRight = (knights & NOT_FILE_G & NOT_FILE_H) << 2;
            long beside = left | right;
            long farBeside = farLeft | farRight;
            return beside << 16 | beside >>> 16 | farBeside << 8 | farBeside >>> 8;
        }

        static long ofKings(long kings) {
            long beside = (kings & NOT_FILE_A) >>> 1 | (kings & NOT_FILE_H) << 1;
            long row = kings | beside;
            return beside | row << 8 | row >>> 8;
        }
    }

    /** The board with its state, and the moves made on it. */
    private static final class Position {
        private static final int[] FIRST_RANK = {ROOK, KNIGHT, BISHOP, QUEEN, KING, BISHOP, KNIGHT, ROOK};

        /** The board twice: the piece on each square, and the squares of each piece (of none too). */
        private final int[] pieces;
        private final long[] squares;
        int side;
        int rights;
        int passing;
        private final int[] moves;
        /** Of each move what can't be told from it when it is taken back; see remember. */
        private final int[] lost;
        int made;

        Position() {
            pieces = new int[SQUARES];
            squares = new long[PIECES];
            squares[0] = -1L;
            side = 0;
            rights = 0;
            passing = NONE;
            moves = new int[ROOM_MADE];
            lost = new int[ROOM_MADE];
            made = 0;
        }

        void empty() {
            for (int square = 0; square < SQUARES; square++) {
                set(square, 0);
            }
            side = 0;
            rights = 0;
            passing = NONE;
        }

        void layOut() {
            empty();
            for (int file = 0; file < FIRST_RANK.length; file++) {
                set(file, FIRST_RANK[file]);
                set(8 + file, PAWN);
                set(48 + file, BLACK + PAWN);
                set(56 + file, BLACK + FIRST_RANK[file]);
            }
            rights = ALL_RIGHTS;
        }

        void set(int square, int piece) {
            if (!isSquare(square) || !isPiece(piece)) {
                return;
            }
            int before = pieces[square];
            if (isPiece(before)) {
                squares[before] &= ~bit(square);
            }
            squares[piece] |= bit(square);
            pieces[square] = piece;
        }

        int pieceOn(int square) {
            return square >= 0 && square < SQUARES ? pieces[square] : 0;
        }

        long squaresOf(int piece) {
            return piece >= 0 && piece < PIECES ? squares[piece] : 0;
        }

        long squaresOfSide(int whose) {
            int none = BLACK * whose;
            long all = 0;
            for (int type = PAWN; type <= KING; type++) {
                all |= squaresOf(none + type);
            }
            return all;
        }

        /** All that a side attacks, were the squares of full full, and the pawns on gone not there. */
        long attacksOf(int whose, long full, long gone) {
            int none = BLACK * whose;
            long queens = squaresOf(none + QUEEN);
            long straight = squaresOf(none + ROOK) | queens;
            long slanted = squaresOf(none + BISHOP) | queens;
            long seen = Attacks.ofPawns(squaresOf(none + PAWN) & ~gone, whose)
                | Attacks.ofKnights(squaresOf(none + KNIGHT))
                | Attacks.ofKings(squaresOf(none + KING));
            for (int way = 0; way < Attacks.WAYS; way++) {
                seen |= Attacks.ray(way < Attacks.STRAIGHT_WAYS ? straight : slanted, full, way);
            }
            return seen;
        }

        boolean kingIsAttacked(int whose) {
            long king = squaresOf(BLACK * whose + KING);
            return (attacksOf(1 - whose, ~squaresOf(0), 0) & king) != 0;
        }

        boolean canBePlayed() {
            return Long.bitCount(squaresOf(KING)) == 1
                && Long.bitCount(squaresOf(BLACK + KING)) == 1
                && !kingIsAttacked(1 - side);
        }

        /** What a legal move does by itself, whatever comes of it. */
        int deedsOf(int move) {
            int from = fromOf(move);
            int to = toOf(move);
            int taken = takenSquare(from, to);
            int deeds = pieceOn(taken) != 0 ? TAKES : 0;
            if (taken != to) {
                deeds += IN_PASSING;
            }
            if (isCastling(from, to)) {
                deeds += CASTLES;
            }
            if (becomesOf(move) != 0) {
                deeds += PROMOTES;
            }
            return deeds;
        }

        /** Makes a legal move. */
        void play(int move) {
            int from = fromOf(move);
            int to = toOf(move);
            int piece = pieceOn(from);
            int taken = takenSquare(from, to);
            remember(move, taken);
            if (isCastling(from, to)) {
                carry(rookCorner(from, to), (from + to) / 2);
            }
            set(taken, 0);
            carry(from, to);
            if (becomesOf(move) != 0) {
                set(to, BLACK * side + becomesOf(move));
            }
            rights &= ~(rightsAt(from) | rightsAt(to));
            if (typeOf(piece) == KING) {
                rights &= ~(3 << 2 * side);
            }
            passing = passedSquare(piece, from, to);
            side = 1 - side;
        }

        /** Takes back the latest move: it, or NONE. */
        int takeBack() {
            if (made <= 0 || made > ROOM_MADE) {
                return NONE;
            }
            made--;
            int move = moves[made];
            int kept = lost[made];
            int from = fromOf(move);
            int to = toOf(move);
            side = 1 - side;
            carry(to, from);
            if (becomesOf(move) != 0) {
                set(from, BLACK * side + PAWN);
            }
            if (isCastling(from, to)) {
                carry((from + to) / 2, rookCorner(from, to));
            }
            set(kept >> 4 & 63, kept & 15);
            rights = kept >> 10 & 15;
            passing = (kept >> 14) - 1;
            return move;
        }

        private void remember(int move, int taken) {
            if (made >= 0 && made < ROOM_MADE) {
                moves[made] = move;
                lost[made] = pieceOn(taken) | taken << 4 | rights << 10 | (passing + 1) << 14;
                made++;
            }
        }

        private void carry(int from, int to) {
            set(to, pieceOn(from));
            set(from, 0);
        }

        /** A legal pawn's move to another file and an empty square takes in passing. */
        private int takenSquare(int from, int to) {
            boolean inPassing = typeOf(pieceOn(from)) == PAWN && (from & 7) != (to & 7) && pieceOn(to) == 0;
            return inPassing ? (from & 56) + (to & 7) : to;
        }

        private boolean isCastling(int from, int to) {
            return typeOf(pieceOn(from)) == KING && (to - from == 2 || from - to == 2);
        }

        private static int rookCorner(int from, int to) {
            return to > from ? from + 3 : from - 4;
        }

        private static int rightsAt(int square) {
            switch (square) {
                case 7:
                    return 1;
                case 0:
                    return 2;
                case 63:
                    return 4;
                case 56:
                    return 8;
                default:
                    return 0;
            }
        }

        private int passedSquare(int piece, int from, int to) {
            if (typeOf(piece) != PAWN || to - from != 16 && from - to != 16) {
                return NONE;
            }
            int passed = (from + to) / 2;
            long pawns = squaresOf(BLACK * (1 - side) + PAWN);
            return (Attacks.ofPawns(pawns, 1 - side) & bit(passed)) != 0 ? passed : NONE;
        }
    }

    /** Where the pieces of the side to move may go; for positions that can be played. */
    private static final class Sight {
        private static final long LAST_RANKS = 0xFF000000000000FFL;
        private static final long RANK_3 = 0xFF0000L;
        private static final long RANK_6 = 0xFF0000000000L;
        private static final int KING_HOME = 4;
        private static final long SHORT_BETWEEN = 0x60L;
        private static final long SHORT_PATH = 0x70L;
        private static final long LONG_BETWEEN = 0x0EL;
        private static final long LONG_PATH = 0x1CL;

        final Position position;
        private long own;
        private long theirs;
        private long full;
        private long king;
        /** Where a piece that is not the king ends all checks by coming there. */
        private long cover;
        private long pins;

        Sight() {
            position = new Position();
            own = 0;
            theirs = 0;
            full = 0;
            king = 0;
            cover = 0;
            pins = 0;
        }

        long pinnedSquares() {
            survey();
            return pins;
        }

        /** How many legal moves there are. */
        int tally() {
            survey();
            int sum = 0;
            long left = own;
            int pieces = Long.bitCount(left);
            for (int i = 0; i < pieces; i++) {
                int from = squareOf(left & -left);
                left &= left - 1;
                long targets = targetsOf(from);
                sum += Long.bitCount(targets);
                if (isPawn(from)) {
                    sum += (QUEEN - KNIGHT) * Long.bitCount(targets & LAST_RANKS);
                }
            }
            return sum;
        }

        /** All legal moves, in the order of the list. */
        void fill(Moves row) {
            row.size = 0;
            survey();
            long left = own;
            int pieces = Long.bitCount(left);
            for (int i = 0; i < pieces; i++) {
                int from = squareOf(left & -left);
                left &= left - 1;
                addMoves(row, from, targetsOf(from));
            }
        }

        private void addMoves(Moves row, int from, long targets) {
            long left = targets;
            int all = Long.bitCount(left);
            for (int i = 0; i < all; i++) {
                long target = left & -left;
                left &= left - 1;
                int plain = from + 64 * squareOf(target);
                if (isPawn(from) && (target & LAST_RANKS) != 0) {
                    for (int becomes = KNIGHT; becomes <= QUEEN; becomes++) {
                        row.add(plain + 4096 * becomes);
                    }
                } else {
                    row.add(plain);
                }
            }
        }

        private boolean isPawn(int square) {
            return typeOf(position.pieceOn(square)) == PAWN;
        }

        /** Finds the checks and pins: each way from the king as far as the first piece of theirs. */
        private void survey() {
            int side = position.side;
            int enemy = BLACK * (1 - side);
            own = position.squaresOfSide(side);
            theirs = position.squaresOfSide(1 - side);
            full = own | theirs;
            king = position.squaresOf(BLACK * side + KING);
            cover = -1L;
            pins = 0;
            long queens = position.squaresOf(enemy + QUEEN);
            long straight = queens | position.squaresOf(enemy + ROOK);
            long slanted = queens | position.squaresOf(enemy + BISHOP);
            for (int way = 0; way < Attacks.WAYS; way++) {
                long line = Attacks.ray(king, theirs, way);
                if ((line & (way < Attacks.STRAIGHT_WAYS ? straight : slanted)) != 0) {
                    judgeLine(line);
                }
            }
            long leapers = Attacks.ofKnights(king) & position.squaresOf(enemy + KNIGHT)
                | Attacks.ofPawns(king, side) & position.squaresOf(enemy + PAWN);
            if (leapers != 0) {
                // Two that leap can't both be taken, and there is nothing between to come to.
                cover &= Long.bitCount(leapers) == 1 ? leapers : 0;
            }
        }

        /** A line from the king to one of theirs that attacks along it, through pieces of its own. */
        private void judgeLine(long line) {
            long between = line & own;
            int shields = Long.bitCount(between);
            if (shields == 0) {
                cover &= line;
            } else if (shields == 1) {
                pins |= between;
            }
        }

        private long targetsOf(int from) {
            long piece = bit(from);
            int type = typeOf(position.pieceOn(from));
            long ways;
            switch (type) {
                case PAWN:
                    ways = pawnWays(piece);
                    break;
                case KNIGHT:
                    ways = Attacks.ofKnights(piece);
                    break;
                case KING:
                    return kingTargets();
                default:
                    ways = Attacks.slide(type, piece, full);
                    break;
            }
            ways &= cover & ~own;
            if ((pins & piece) != 0) {
                ways &= pinLine(piece);
            }
            return type == PAWN ? ways | passingTarget(piece) : ways;
        }

        private long pinLine(long piece) {
            for (int way = 0; way < Attacks.WAYS; way++) {
                long line = Attacks.ray(king, theirs, way);
                if ((line & piece) != 0) {
                    return line;
                }
            }
            return 0;
        }

        private long pawnWays(long pawn) {
            long taking = Attacks.ofPawns(pawn, position.side) & theirs;
            long one;
            long two;
            if (position.side == 0) {
                one = pawn << 8 & ~full;
                two = (one & RANK_3) << 8 & ~full;
            } else {
                one = pawn >>> 8 & ~full;
                two = (one & RANK_6) >>> 8 & ~full;
            }
            return taking | one | two;
        }

        /** Two pawns leave the board's lines at once, so pins and cover can't tell: it is tried. */
        private long passingTarget(long pawn) {
            if (position.passing == NONE) {
                return 0;
            }
            int enemy = 1 - position.side;
            long target = bit(position.passing);
            long back = position.side == 0 ? target >>> 8 : target << 8;
            if ((Attacks.ofPawns(pawn, position.side) & target & ~full) == 0
                    || (back & position.squaresOf(BLACK * enemy + PAWN)) == 0) {
                return 0;
            }
            long fullThen = full & ~pawn & ~back | target;
            return (position.attacksOf(enemy, fullThen, back) & king) == 0 ? target : 0;
        }

        private long kingTargets() {
            long steps = Attacks.ofKings(king) & ~own;
            long castlings = castlingTargets();
            if ((steps | castlings) == 0) {
                return 0;
            }
            // Without the king on the board: it does not shade the squares behind it when it goes.
            long danger = position.attacksOf(1 - position.side, full & ~king, 0);
            int up = 56 * position.side;
            long home = bit(KING_HOME + up);
            if ((danger & SHORT_PATH << up) != 0) {
                castlings &= ~(home << 2);
            }
            if ((danger & LONG_PATH << up) != 0) {
                castlings &= ~(home >>> 2);
            }
            return steps & ~danger | castlings;
        }

        /** Where castling would bring the king, attacks left aside. */
        private long castlingTargets() {
            int side = position.side;
            int up = 56 * side;
            int rights = position.rights >> 2 * side;
            long home = bit(KING_HOME + up);
            long rooks = position.squaresOf(BLACK * side + ROOK);
            if (king != home) {
                return 0;
            }
            long targets = 0;
            if ((rights & 1) != 0 && (rooks & home << 3) != 0 && (full & SHORT_BETWEEN << up) == 0) {
                targets |= home << 2;
            }
            if ((rights & 2) != 0 && (rooks & home >>> 4) != 0 && (full & LONG_BETWEEN << up) == 0) {
                targets |= home >>> 2;
            }
            return targets;
        }
    }
}
