/** Lines that the chess world has counted many times over. */
final class LinesTest extends Boards {
    public static void main(String[] args) {
        counted("rnbqkbnr/pppppppp/8/8/8/8/PPPPPPPP/RNBQKBNR", 0, 15, -1, 20, 400, 8902);
        counted("r3k2r/p1ppqpb1/bn2pnp1/3PN3/1p2P3/2N2Q1p/PPPBBPPP/R3K2R", 0, 15, -1, 48, 2039, 97862);
        counted("8/2p5/3p4/KP5r/1R3p1k/8/4P1P1/8", 0, 0, -1, 14, 191, 2812);
        counted("r3k2r/Pppp1ppp/1b3nbN/nP6/BBP1P3/q4N2/Pp1P2PP/R2Q1RK1", 0, 12, -1, 6, 264, 9467);
        counted("r2q1rk1/pP1p2pp/Q4n2/bbp1p3/Np6/1B3NBn/pPPP1PPP/R3K2R", 1, 3, -1, 6, 264, 9467);
        counted("rnbq1k1r/pp1Pbppp/2p5/8/2B5/8/PPP1NnPP/RNBQK2R", 0, 3, -1, 44, 1486, 62379);
        counted("r4rk1/1pp1qppp/p1np1n2/2b1p1B1/2B1P1b1/P1NP1N2/1PP1QPPP/R4RK1", 0, 0, -1, 46, 2079, 89890);
        // The position with the most moves that a game can come to.
        counted("R6R/3Q4/1Q4Q1/4Q3/2Q4Q/Q4Q2/pp1Q4/kBNN1KB1", 0, 0, -1, 218, 99, 19073);
        Due.finish();
    }

    private static void counted(String board, int side, int rights, int passing, long one, long two, long three) {
        MoveList x = new MoveList();
        setUp(x, board);
        x.state(side, rights, passing);
        Due.answer(board + " lines(0)", x.lines(0), 1);
        Due.answer(board + " lines(1)", x.lines(1), one);
        Due.answer(board + " lines(2)", x.lines(2), two);
        Due.answer(board + " lines(3)", x.lines(3), three);
        Due.answer(board + " count()", x.count(), one);
        Due.answer(board + " look(3)", x.look(3), 0);
    }
}
