/** Promise 18: every boundary that the document names for late. */
final class LateEdgesTest {
    public static void main(String[] args) {
        Rows.hold("IllegalArgumentException: i is below 0", """
            new 100
            late {MIN -16 -1} ! IllegalArgumentException
            2 x order 5 0 10
            late {MIN -1} ! IllegalArgumentException
            cutoff 0 5 = 2
            late {MIN -2 -1} ! IllegalArgumentException
            late {0 1 2} = {0 1 -1}
            """);
        Rows.hold("-1 if there are not so many: none", """
            new 100
            late {0 1 15 16 MAX} = -1
            2 x order 5 0 10
            late {0 1 2 MAX} = -1
            """);
        Rows.hold("-1 if there are not so many: one, behind it none", """
            new 100
            order {5 4 6} 0 10
            cutoff 0 4 = 1
            late {0 1 2 3 15 16 MAX} = {1 -1 -1 -1 -1 -1 -1}
            """);
        Rows.hold("The i-th late order (upward): as they are numbered, not as they became late or are due", """
            new 100
            hour 0 0 9
            order {9 3 7 1 5} 0 10
            plan = 40
            cutoff 0 1 = 1
            late {0 1} = {3 -1}
            cutoff 0 3 = 1
            late {0 1 2} = {1 3 -1}
            cutoff 0 9 = 3
            late {0..5} = {0 1 2 3 4 -1}
            """);
        Rows.hold("The i-th late order: all sixteen", """
            new 100
            16 x order 5 0 10
            cutoff 0 5 = 16
            late {0..15} = {0 1 2 3 4 5 6 7 8 9 10 11 12 13 14 15}
            late {16 17 MAX} = -1
            late {MIN -1} ! IllegalArgumentException
            """);
        Check.end();
    }
}
