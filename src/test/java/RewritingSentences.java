/** The sentences about rewriting. */
final class RewritingSentences extends Sentences {
    private RewritingSentences() {
    }

    static void look() {
        section("REWRITING");
        order();
        idleSteps();
        descents();
        turns();
        joins();
        idleConditions();
        idlePredicates();
        repeatedPredicates();
        repeatedPaths();
    }

    private static void order() {
        sentence("A path is rewritten by the first of these rules that can be used, each at the first place where it can "
                + "be; this is repeated until no rule can be used.");
        // Each of these would end in another way, or with other uses, if a later rule came first.
        rewrites(".*/a[?.*]", "a", "17");
        rewrites(".*[?.*]/a", "a", "17");
        rewrites("#*/b/^*", "%b/^*", "2");
        rewrites("#*/b/.*[=1]", "%b[=1]", "25");
        rewrites("b/a/^*", "b[?a]", "45");
        rewrites("a/^*/.*[=1]", ".*[?a][=1]", "45");
        rewrites("a/.*[?.*]", "a", "57");
        rewrites("a/.*[=1,?.*]", "a[=1]", "56");
        rewrites("a[=1]/.*[=1]", "a[=1]", "58");
        rewrites("a[?.*+=1,?.*]", "a", "67");
        rewrites("a[?.*][?.*]", "a", "77");
        rewrites("a[=1,?.*][=1,?.*]", "a[=1]", "668");
        // The first place leaves no room at the second one.
        rewrites("a[=1][=2]/.*[=3]/.*[=4]", "a[=1][=2][=3]/.*[=4]", "5");
        // Rules whose turn comes again behind later ones.
        rewrites("a[?.*]/^*[=1+?.*]/.*[1]", ".*[?a]/.*[1]", "477");
        rewrites("a[=1][=1]/.*[=2][=2]", "a[=1][=2]", "588");
        rewrites("a//.*/b", "a/%b", "12");
        rewrites("#*/a/^*", "%a/^*", "2");
        rewrites("a/^*/.*[?.*]", ".*[?a]", "457");
        rewrites("#*/a/^*/.*[?.*,=1][=1]", "%a/^*[=1]", "2568");
        rewrites("//.*/a/.*/b/^*/c/^*|//a", "/%a[?b][?c]|/%a", "11224455");
    }

    private static void idleSteps() {
        sentence("- Rule 1: a plain step .* is removed, if the path has another step.");
        rewrites(".*/a", "a", "1");
        rewrites("a/.*", "a", "1");
        rewrites("/.*/a", "/a", "1");
        rewrites("a/.*/b", "a/b", "1");
        rewrites(".*/a/.*", "a", "11");
        rewrites(".*/.*", ".*", "1");
        rewrites(".*/.*/.*/.*/.*/.*/.*/.*", ".*", "1111111");
        rewrites(".*/a|b/.*", "a|b", "11");
        stays(".*");
        stays("/.*");
        stays(".*|a/b");
        stays(".a/b");
        stays("^*/a");
        stays(".*[=1]/a");
        stays("a/.*[1]");
    }

    private static void descents() {
        sentence("- Rule 2: of two neighbouring steps, a plain step #* followed by a step that is not positional, and "
                + "whose axis is child: the first is removed, and the second gets the descendant axis.");
        rewrites("//a", "/%a", "2");
        rewrites("#*/*", "%*", "2");
        rewrites("a//b", "a/%b", "2");
        rewrites("#*/a[=1]/#*/b[?c]", "%a[=1]/%b[?c]", "22");
        rewrites("//a//b//c//d", "/%a/%b/%c/%d", "2222");
        stays("/#*/a[1]");
        stays("#*/a[=1,-$]");
        stays("#*[=1]/a");
        stays("#a/b");
        stays("%*/b");
        stays(".a/b");
        stays("a/#*");

        sentence("- Rule 3: of two neighbouring steps, a plain step #* followed by a step that is not positional, and "
                + "whose axis is descendant or descendant-or-self: the first is removed.");
        rewrites("//%b", "/%b", "3");
        rewrites("//#b[=1]", "/#b[=1]", "3");
        rewrites("//#*", "/#*", "3");
        rewrites("#*/#*[?a]", "#*[?a]", "3");
        rewrites("//#*/%b", "/%b", "33");
        rewrites("//#*/b", "/%b", "23");
        stays("#*/%b[2]");
        stays("#*/#b[=1][$]");
        stays("#*[=1]/%b");
        stays("#a/%b");
        stays("%*/#*");
        for (char sign : ">}^~<{".toCharArray()) {
            stays("#*/" + sign + "*");
        }
    }

    private static void turns() {
        sentence("- Rule 4: of two neighbouring steps, a plain step with the child axis followed by a plain step ^*: the "
                + "two become one step .* with one predicate, which has one condition, ? with the first step alone.");
        rewrites("a/^*", ".*[?a]", "4");
        rewrites("*/^*", ".*[?*]", "4");
        rewrites("/*/^*/b", "/.*[?*]/b", "4");
        rewrites("h/^*|/a/^*", ".*[?h]|/.*[?a]", "44");
        rewrites("a/^*/b/^*", ".*[?a][?b]", "445");
        is("a path as long as can be", "a/^*/b/^*/c/^*/d/^*".length(), 19);
        rewrites("a/^*/b/^*/c/^*/d/^*", ".*[?a][?b][?c]/.*[?d]", "444455");
        stays("a[=1]/^*");
        stays("a[1]/^*");
        stays("a/^*[=1]");
        stays("a/^b");
        stays("a/~*");
        stays("^*/a");
        for (char sign : "%#>}^~<{".toCharArray()) {
            stays(sign + "a/^*");
        }
    }

    private static void joins() {
        sentence("- Rule 5: a step .* (not the first one) that is not positional, and whose predicates together with "
                + "those of the step before are at most 3: it is removed, and its predicates are put behind those of the "
                + "step before.");
        rewrites("a/.*[=1]", "a[=1]", "5");
        rewrites("a[1]/.*[=1]", "a[1][=1]", "5");
        rewrites("a[=1][=2]/.*[-=3]", "a[=1][=2][-=3]", "5");
        rewrites("a[=1]/.*[-=2][=3]", "a[=1][-=2][=3]", "5");
        rewrites("a/.*[=1][=2][=3]", "a[=1][=2][=3]", "5");
        rewrites("{a[$]/.*[=1]", "{a[$][=1]", "5");
        rewrites("a/.*[=1]/.*[=2]/.*[=3]/.*[=4]", "a[=1][=2][=3]/.*[=4]", "555");
        rewrites(".*[=1]/.*[=2]", ".*[=1][=2]", "5");
        rewrites("/.*[1]/.*[=2]", "/.*[1][=2]", "5");
        stays(".*[=1]/a");
        stays(".*[=1]");
        stays("/.*[=1]");
        stays("a[=1][=2]/.*[=3][=4]");
        stays("a[=1][=2][=3]/.*[=4]");
        stays("a[=1]/.*[=2][=3][=4]");
        stays("a/.b[=1]");
        stays("a/#*[=1]");
        stays("a/.*[1]");
        stays("a/.*[=1][$]");
        stays("a/.*[=1+-2]");
    }

    private static void idleConditions() {
        sentence("- Rule 6: a condition ?.* that is not an opposite, in an alternative with another condition: it is "
                + "removed.");
        rewrites("a[?.*,=1]", "a[=1]", "6");
        rewrites("a[=1,?.*]", "a[=1]", "6");
        rewrites("a[=1,?.*,$]", "a[=1,$]", "6");
        rewrites("a[?.*,=1,?.*]", "a[=1]", "66");
        rewrites("a[=1+2,?.*+?.*,3,?.*]", "a[=1+2+3]", "666");
        rewrites("a[1][2][3,=4+=5+=6,=7,?.*]", "a[1][2][3,=4+=5+=6,=7]", "6");
        rewrites("b/a[1][2,?.*]/c", "b/a[1][2]/c", "6");
        rewrites("a[-?.*,?.*]", "a[-?.*]", "6");
        stays("a[-?.*,=1]");
        stays("a[?.a,=1]");
        stays("a[?*,=1]");
        stays("a[?#*,=1]");
        stays("a[?.*/.*,=1]");
        stays("a[?.*/a,=1]");

        sentence("- Rule 7: a predicate with an alternative that consists only of the condition ?.*, not an opposite: it is "
                + "removed.");
        rewrites("a[?.*]", "a", "7");
        rewrites("a[=1+?.*]", "a", "7");
        rewrites("a[?.*+=1,=2]", "a", "7");
        rewrites("a[1+2+?.*]", "a", "7");
        rewrites("a[?.*,?.*]", "a", "67");
        rewrites("a[?.*,?.*,?.*]", "a", "667");
    }

    private static void idlePredicates() {
        rewrites("a[1][2+?.*][3]", "a[1][3]", "7");
        rewrites("a[1][2][3+?.*]", "a[1][2]", "7");
        rewrites("a[?.*][?.*][?.*]", "a", "777");
        rewrites("b[2]/a[?.*]/c[?.*][1]", "b[2]/a/c[1]", "77");
        rewrites("a[1]/.*[-1+?.*]", "a[1]", "17");
        stays("a[-?.*]");
        stays("a[-?.*+=1]");
        stays("a[?.a]");
        stays("a[?*]");
        stays("a[?.*/.*]");
    }

    private static void repeatedPredicates() {
        sentence("- Rule 8: of two neighbouring predicates of a step that are alike and not positional, the second is "
                + "removed.");
        rewrites("a[=1][=1]", "a[=1]", "8");
        rewrites("a[=1][=1][=1]", "a[=1]", "88");
        rewrites("a[1][=1][=1]", "a[1][=1]", "8");
        rewrites("a[=1][=1][1]", "a[=1][1]", "8");
        rewrites("a[=1,-?b+?c/d][=1,-?b+?c/d][=1,-?b+?c/d]", "a[=1,-?b+?c/d]", "88");
        rewrites("b/a[?b][?b]/c[=0][=0]", "b/a[?b]/c[=0]", "88");
        stays("a[1][1]");
        stays("a[=1+$][=1+$]");
        stays("a[=1][=2][=1]");
        stays("a[=1][2][=1]");
        stays("a[=1,=2][=1+=2]");
        stays("a[=1,=2][=2,=1]");
        stays("a[=1][-=1]");
        stays("a[=1][=1,=1]");
        stays("a[?b/c][?b]");
        stays("a[?b][?.b]");
        stays("a[=1]/a[=1]");

        sentence("For rules 6 to 8 the places are ordered by steps, then predicates, then alternatives and conditions.");
        rewrites("a[?.*,=1][=2+=3,?.*]/b[=4,?.*,=5]", "a[=1][=2+=3]/b[=4,=5]", "666");
        rewrites("a[=1+?.*][=2]/b[?.*][=3][-=4+?.*]", "a[=2]/b[=3]", "777");
        rewrites("a[=1][=1][=2]/b[=3][=3][=3]", "a[=1][=2]/b[=3]", "888");
    }

    private static void repeatedPaths() {
        sentence("When all paths of a query have been rewritten, in their order, Rule 9 removes each path that is like an "
                + "earlier one.");
        rewrites("a|a", "a", "9");
        rewrites("a|b|a|b", "a|b", "99");
        rewrites("a|b|b|a", "a|b", "99");
        rewrites("a|b|b|b", "a|b", "99");
        rewrites("a|a|a|a", "a", "999");
        rewrites("b|a|a|c", "b|a|c", "9");
        rewrites("//a|b|/%a", "/%a|b", "29");
        rewrites("/%a|b|//a", "/%a|b", "29");
        rewrites("a[=1][=1]|a/.*[=1]", "a[=1]", "589");
        rewrites("a/^*/.*[?.*,=2+=3][?b][?b]|%a|.*/%a", ".*[?a][=2+=3][?b]|%a", "145689");
        stays("a");
        stays("a|b|c|d");
        TreeQueries x = grownWith("a|a|b", "c|c|d", "g");
        x.rewrite(0);
        is("a query laid where paths were removed", read(x, 0, "a|b|c|d") + query(x, 0), "4a|b|c|d");
        is("uses of rule 9 elsewhere", x.uses(1, 9), 1);
        x.unite(3, 1, 2);
        is("a union then", query(x, 3), "c|c|d|g");

        sentence("Things are alike if they are written in the same way.");
        rewrites("a[1]/b|a[1]/b", "a[1]/b", "9");
        stays("a|/a");
        stays("a|%a");
        stays("a|.a");
        stays("a|*");
        stays("a[1]|a[2]");
        stays("a[1]|a[-1]");
        stays("a[1]|a[=1]");
        stays("a[1]|a[1][1]");
        stays("a[=1,=2]|a[=2,=1]");
        stays("a[?b]|a[?b/b]");
        stays("a/b|a");
        stays("a|a/b");
        stays("a/b|b/a");
        stays("a[=1]/b|a/b[=1]");
    }
}
