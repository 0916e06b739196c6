/** MEANING at its edges: each FINDING at the first input where it comes and the last where it does not. */
public final class FindingEdgesTest {
    private static final int QUOTIENT = Edge.QUOTIENT, INDEX = Edge.INDEX, LENGTH = Edge.LENGTH;
    private static final int EMPTY = Edge.EMPTY, SIZE = Edge.SIZE, PERM = Edge.PERM;
    private static final String LEAST = "(0-2147483*1000-648)";
    private static final String GREATEST = "(2147483*1000+647)";

    public static void main(String[] args) {
        wrappingNumbers();
        wrappingSums();
        quotient();
        comparisons();
        choices();
        index();
        iotaSize();
        distSize();
        empty();
        scanAndRev();
        catSize();
        flatSize();
        packLength();
        permLength();
        permOnce();
        partSize();
        partLength();
        eachLength();
        eachPlaces();
        notWorkedOut();
        firstOfSeveral();
        leastLane();
        Check.end();
    }

    /** "whole numbers (32 bits, wrapping)" */
    private static void wrappingNumbers() {
        Edge.comes(GREATEST, "2147483647");
        Edge.comes(LEAST, "-2147483648");
        Edge.comes(GREATEST + "+1", "-2147483648");
        Edge.comes(LEAST + "-1", "2147483647");
        Edge.comes("0-" + LEAST, "-2147483648");
        Edge.comes(GREATEST + "*2", "-2");
        Edge.comes(LEAST + "*" + LEAST, "0");
        Edge.comes(LEAST + "*(0-1)", "-2147483648");
        Edge.comes("65536*65536", "0");
        Edge.comes("65536*32768", "-2147483648");
        Edge.comes("999999999*999999999", "808348673");
        Edge.comes(LEAST + "/(0-1)", "-2147483648");
        Edge.comes(LEAST + "%(0-1)", "0");
    }

    private static void wrappingSums() {
        Edge.comes("sum([" + GREATEST + ",1])", "-2147483648");
        Edge.comes("sum(dist(" + GREATEST + ",3))", "2147483645");
        Edge.comes("scan([" + GREATEST + ",1,1])", "[0,2147483647,-2147483648]");
        Edge.comes("sum(iota(0))", "0");
        Edge.comes("sum([7])", "7");
        Edge.comes("sum(iota(200))", "19900");
    }

    /** "/ % (QUOTIENT: by 0; cut toward 0)" */
    private static void quotient() {
        Edge.comes("7/1", "7");
        Edge.comes("7/(0-1)", "-7");
        Edge.ends("7/0", QUOTIENT);
        Edge.ends("7%0", QUOTIENT);
        Edge.ends("0/0", QUOTIENT);
        Edge.ends("0%0", QUOTIENT);
        Edge.ends(LEAST + "/0", QUOTIENT);
        Edge.comes("0/7", "0");
        Edge.comes("[7/2,(0-7)/2,7/(0-2),(0-7)/(0-2)]", "[3,-3,-3,3]");
        Edge.comes("[7%2,(0-7)%2,7%(0-2),(0-7)%(0-2)]", "[1,-1,1,-1]");
        Edge.comes("[1/2,(0-1)/2,1%2,(0-1)%2]", "[0,0,1,-1]");
        Edge.comes("[6/6,5/6,7/6]", "[1,0,1]");
    }

    private static void comparisons() {
        Edge.comes("[1<2,2<2,3<2]", "[1,0,0]");
        Edge.comes("[1=2,2=2,3=2]", "[0,1,0]");
        Edge.comes("[" + LEAST + "<" + GREATEST + "," + GREATEST + "<" + LEAST + "]", "[1,0]");
        Edge.comes("[" + LEAST + "=" + LEAST + ",0=0-0,(0-1)<0]", "[1,1,1]");
    }

    /** "if: by whether the first part is not 0" */
    private static void choices() {
        Edge.comes("if 0 then 1 else 2", "2");
        Edge.comes("if 1 then 1 else 2", "1");
        Edge.comes("if 0-1 then 1 else 2", "1");
        Edge.comes("if " + LEAST + " then 1 else 2", "1");
        Edge.comes("{if x then 1 else 2:x in [0-1,0,1,2]}", "[1,2,1,1]");
    }

    /** "s[i]: item i, from 0 on (INDEX)" */
    private static void index() {
        Edge.comes("[5,6,7][0]", "5");
        Edge.comes("[5,6,7][2]", "7");
        Edge.ends("[5,6,7][3]", INDEX);
        Edge.ends("[5,6,7][0-1]", INDEX);
        Edge.ends("[5,6,7][" + LEAST + "]", INDEX);
        Edge.ends("[5,6,7][" + GREATEST + "]", INDEX);
        Edge.ends("iota(0)[0]", INDEX);
        Edge.comes("iota(200)[199]", "199");
        Edge.ends("iota(200)[200]", INDEX);
        Edge.comes("[[5],[6]][1]", "[6]");
        Edge.ends("[[5],[6]][2]", INDEX);
        Edge.ends("[[5,6],iota(0)][1][0]", INDEX);
        // In the next lane there would be an item.
        Edge.ends("{r[1]:r in [[1],[2,3]]}", INDEX);
        Edge.ends("{r[0-1]:r in [[1],[2,3]]}", INDEX);
        Edge.comes("{r[0]:r in [[1],[2,3]]}", "[1,2]");
    }

    /** "iota(n): 0 .. n - 1 (SIZE: n below 0, or above 200)" */
    private static void iotaSize() {
        Edge.comes("iota(0)", "[]");
        Edge.comes("iota(1)", "[0]");
        Edge.ends("iota(0-1)", SIZE);
        Edge.comes("let s=iota(200) in [#s,s[199]]", "[200,199]");
        Edge.ends("iota(201)", SIZE);
        Edge.ends("iota(" + GREATEST + ")", SIZE);
        Edge.ends("iota(" + LEAST + ")", SIZE);
    }

    /** "dist(v, n): n times v (SIZE likewise)" */
    private static void distSize() {
        Edge.comes("dist(7,0)", "[]");
        Edge.comes("dist(7,1)", "[7]");
        Edge.comes("dist([7],0)", "[]");
        Edge.comes("dist(iota(0),2)", "[[],[]]");
        Edge.ends("dist(7,0-1)", SIZE);
        Edge.comes("let s=dist(7,200) in [#s,s[199]]", "[200,7]");
        Edge.ends("dist(7,201)", SIZE);
        Edge.ends("dist([[7]],201)", SIZE);
        Edge.comes("#dist([[7]],200)", "200");
        Edge.ends("dist(7," + GREATEST + ")", SIZE);
        Edge.ends("dist(7," + LEAST + ")", SIZE);
    }

    /** "max(s), min(s), of numbers (EMPTY)" */
    private static void empty() {
        Edge.ends("max(iota(0))", EMPTY);
        Edge.ends("min(iota(0))", EMPTY);
        Edge.comes("max([7])", "7");
        Edge.comes("min([7])", "7");
        Edge.comes("[max([0-2,0-1]),min([2,1])]", "[-1,1]");
        Edge.comes("[max([" + LEAST + "]),min([" + GREATEST + "])]", "[-2147483648,2147483647]");
        Edge.comes("[max([1,3,2]),max([3,1,2]),max([1,2,3]),min([2,1,3]),min([1,2,3]),min([3,2,1])]", "[3,3,3,1,1,1]");
        Edge.ends("{max(r):r in [[1],iota(0)]}", EMPTY);
        Edge.ends("{min(r):r in [iota(0),[1]]}", EMPTY);
    }

    private static void scanAndRev() {
        Edge.comes("scan(iota(0))", "[]");
        Edge.comes("scan([7])", "[0]");
        Edge.comes("scan([7,8])", "[0,7]");
        Edge.comes("rev(iota(0))", "[]");
        Edge.comes("rev([7])", "[7]");
        Edge.comes("rev([7,8])", "[8,7]");
        Edge.comes("rev([[1,2],iota(0),[3]])", "[[3],[],[1,2]]");
        Edge.comes("{scan(r):r in [iota(0),[1,2],[3,4]]}", "[[],[0,1],[0,3]]");
        Edge.comes("#scan(iota(200))", "200");
        Edge.comes("#rev(iota(200))", "200");
    }

    /** "cat(s, t): of one TYPE (SIZE: above 200 items)" */
    private static void catSize() {
        Edge.comes("#cat(iota(100),iota(100))", "200");
        Edge.ends("cat(iota(100),iota(101))", SIZE);
        Edge.ends("cat(iota(101),iota(100))", SIZE);
        Edge.comes("#cat(iota(200),iota(0))", "200");
        Edge.comes("#cat(iota(0),iota(200))", "200");
        Edge.ends("cat(iota(200),[1])", SIZE);
        Edge.ends("cat([1],iota(200))", SIZE);
        Edge.comes("cat(iota(0),iota(0))", "[]");
        // Items are counted, not what is in them.
        Edge.comes("#cat(dist([1,2],100),dist([3],100))", "200");
        Edge.ends("cat(dist([1,2],100),dist([3],101))", SIZE);
    }

    /** "flat(s): of sequences: their items (SIZE likewise)" */
    private static void flatSize() {
        Edge.comes("#flat(dist(iota(100),2))", "200");
        Edge.ends("flat([iota(100),iota(101)])", SIZE);
        Edge.comes("#flat([iota(200)])", "200");
        Edge.comes("#flat(cat([iota(200)],dist(iota(0),5)))", "200");
        Edge.ends("flat([iota(200),[1]])", SIZE);
        Edge.comes("flat(dist([1],0))", "[]");
        Edge.comes("flat([iota(0)])", "[]");
        Edge.comes("#flat(dist(dist([1,2],100),2))", "200");
        Edge.ends("flat([dist([1],100),dist([1],101)])", SIZE);
        // Each lane has its own 200.
        Edge.comes("{#flat(r):r in[[iota(200)],[iota(100),iota(100)],[iota(0)]]}", "[200,200,0]");
        Edge.ends("{#flat(r):r in[[iota(200)],[iota(100),iota(101)]]}", SIZE);
        Edge.comes("{#cat(r,iota(100)):r in[iota(100),iota(0),iota(100)]}", "[200,100,200]");
        Edge.ends("{#cat(r,iota(100)):r in[iota(100),iota(101)]}", SIZE);
    }

    /** "pack(s, f): the items of s where f, of numbers, has not 0 (LENGTH: they are not as long)" */
    private static void packLength() {
        Edge.comes("pack([5,6],[1,0-1])", "[5,6]");
        Edge.comes("pack([5,6],[0,0])", "[]");
        Edge.comes("pack(iota(0),iota(0))", "[]");
        Edge.ends("pack([5,6],[1])", LENGTH);
        Edge.ends("pack([5,6],[1,1,1])", LENGTH);
        Edge.ends("pack(iota(0),[1])", LENGTH);
        Edge.ends("pack([1],iota(0))", LENGTH);
        Edge.comes("#pack(iota(200),iota(200))", "199");
        // What is kept beside them does not count.
        Edge.comes("let f=[1,0] in let s=[5,6] in let t=[9,9] in [pack(s,f),pack(f,s),pack(t,f)]", "[[5],[1,0],[9]]");
        Edge.comes("let f=[0,1] in let s=[5,6] in [pack(s,f),pack(s,s)]", "[[6],[5,6]]");
        // Together they are as long, lane by lane they are not.
        Edge.ends("{pack(r,f):r in [[1],[2,3]],f in [[1,1],[1]]}", LENGTH);
    }

    private static void permLength() {
        Edge.comes("perm([5],[0])", "[5]");
        Edge.comes("perm(iota(0),iota(0))", "[]");
        Edge.ends("perm([5],iota(0))", LENGTH);
        Edge.ends("perm([5],[0,1])", LENGTH);
        Edge.ends("perm(iota(0),[0])", LENGTH);
        // LENGTH comes ahead of PERM.
        Edge.ends("perm([5],[7,7])", LENGTH);
        Edge.ends("perm([5,6],[7])", LENGTH);
    }

    /** "item i of s stands at p[i]; PERM: p is not each of 0 .. its length less 1 once" */
    private static void permOnce() {
        Edge.comes("perm([5,6,7],[0,1,2])", "[5,6,7]");
        Edge.comes("perm([5,6,7],[1,2,0])", "[7,5,6]");
        Edge.comes("perm([[5],iota(0)],[1,0])", "[[],[5]]");
        Edge.ends("perm([5,6,7],[1,2,3])", PERM);
        Edge.ends("perm([5,6,7],[0-1,0,1])", PERM);
        Edge.ends("perm([5,6,7],[0,1,1])", PERM);
        Edge.ends("perm([5],[1])", PERM);
        Edge.ends("perm([5],[" + LEAST + "])", PERM);
        Edge.ends("perm([5],[" + GREATEST + "])", PERM);
        Edge.comes("perm(iota(200),rev(iota(200)))[0]", "199");
        Edge.ends("perm(iota(200),{x+1:x in iota(200)})", PERM);
        Edge.comes("{perm(r,p):r in [[1,2],[3,4]],p in [[0,1],[1,0]]}", "[[1,2],[4,3]]");
        Edge.ends("{perm(r,p):r in [[1,2],[3,4]],p in [[0,1],[2,3]]}", PERM);
    }

    /** "part(s, l): SIZE: one is below 0", ahead of LENGTH. */
    private static void partSize() {
        Edge.comes("part([5],[0,1])", "[[],[5]]");
        Edge.ends("part([5],[0-1,2])", SIZE);
        Edge.ends("part([5],[2,0-1])", SIZE);
        Edge.ends("part([5],[7,0-1])", SIZE);
        Edge.ends("part([5],[1," + LEAST + "," + LEAST + "])", SIZE);
        Edge.ends("part(iota(0),[0-1,1])", SIZE);
    }

    /** "then LENGTH: together they are not as long as s", in numbers that do not wrap. */
    private static void partLength() {
        Edge.comes("part([5,6],[2])", "[[5,6]]");
        Edge.comes("part([5,6],[1,1])", "[[5],[6]]");
        Edge.ends("part([5,6],[1])", LENGTH);
        Edge.ends("part([5,6],[3])", LENGTH);
        Edge.ends("part([5,6],[1,2])", LENGTH);
        Edge.ends("part([5,6],iota(0))", LENGTH);
        Edge.comes("part(iota(0),iota(0))", "[]");
        Edge.comes("part(iota(0),[0])", "[[]]");
        Edge.ends("part(iota(0),[1])", LENGTH);
        Edge.ends("part([5],[" + GREATEST + "])", LENGTH);
        Edge.ends("part([5],[" + GREATEST + "," + GREATEST + ",3])", LENGTH);
        Edge.ends("part(iota(0),[" + GREATEST + "," + GREATEST + ",2])", LENGTH);
        Edge.comes("#part(iota(200),dist(1,200))", "200");
        Edge.ends("{part(r,l):r in [[1],[2,3]],l in [[1,1],[1]]}", LENGTH);
    }

    /** "{ b : x in s, .. }: s .. are sequences (LENGTH: not all as long)" */
    private static void eachLength() {
        Edge.comes("{x+y:x in [1,2],y in [3,4]}", "[4,6]");
        Edge.ends("{x+y:x in [1,2],y in [3]}", LENGTH);
        Edge.ends("{x+y:x in [1,2],y in [3,4,5]}", LENGTH);
        Edge.ends("{1:x in iota(0),y in [1]}", LENGTH);
        Edge.ends("{1:x in [1],y in iota(0)}", LENGTH);
        Edge.ends("{1:x in [1],y in [1],z in [1,2]}", LENGTH);
        Edge.ends("{1:x in [1],y in [1],z in [1],w in iota(0)}", LENGTH);
        Edge.ends("{1:x in [1],y in [1,2],z in [1],w in [1]}", LENGTH);
        Edge.comes("{x+y+z+w:x in [1],y in [2],z in [3],w in [4]}", "[10]");
        Edge.comes("{1:x in iota(0),y in iota(0)}", "[]");
        Edge.comes("{x+y:x in iota(200),y in iota(200)}[199]", "398");
        Edge.ends("{x+y:x in iota(200),y in iota(199)}", LENGTH);
        // Together they are as long, lane by lane they are not.
        Edge.ends("{{1:x in r,y in q}:r in [[1],[2,3]],q in [[1,2],[3]]}", LENGTH);
        // It comes behind GENS and ahead of c and b.
        Edge.ends("{1/0:x in [1],y in iota(0)|1/0}", LENGTH);
        Edge.ends("{1:x in [1],y in iota(1/0)}", QUOTIENT);
    }

    /** "for each place, in order, ... b, if c (if it is told) is not 0" */
    private static void eachPlaces() {
        Edge.comes("{7:x in iota(0)}", "[]");
        Edge.comes("{7:x in iota(0)|1}", "[]");
        Edge.comes("{1/0:x in iota(0)|1/0}", "[]");
        Edge.comes("{x:x in [5,6,7]|0}", "[]");
        Edge.comes("{x:x in [5,6,7]|x=5}", "[5]");
        Edge.comes("{x:x in [5,6,7]|x=7}", "[7]");
        Edge.comes("{x:x in [5,6,7]|0-1}", "[5,6,7]");
        Edge.comes("{x:x in [5,6,7]|" + LEAST + "}", "[5,6,7]");
        Edge.comes("#{x:x in iota(200)}", "200");
        Edge.comes("{{y:y in r|y}:r in [[0,1],iota(0),[2,0,3]]}", "[[1],[],[2,3]]");
    }

    /** What is not worked out has no FINDING, in either run. */
    private static void notWorkedOut() {
        Edge.comes("if 1 then 2 else 1/0", "2");
        Edge.comes("if 0 then 1/0 else 2", "2");
        Edge.comes("{10/x:x in [0,5]|x}", "[2]");
        Edge.comes("{if x then 10/x else 0:x in [0,5]}", "[0,2]");
        Edge.comes("def f()=1/0; 3", "3");
        Edge.comes("def f()=1/0; if 0 then f() else 3", "3");
        Edge.comes("if 0 then max(iota(0)) else 3", "3");
        Edge.comes("if 0 then #iota(201) else 3", "3");
        Edge.comes("if 0 then #perm([1],[7]) else 3", "3");
        Edge.comes("if 0 then #part([1],[7]) else 3", "3");
        Edge.comes("if 0 then #{1:x in [1],y in iota(0)} else 3", "3");
        Edge.ends("let x=1/0 in 3", QUOTIENT);
        Edge.ends("def f(x:int)=3; f(1/0)", QUOTIENT);
    }

    /** "FINDINGS end it": the first in the order of parts. */
    private static void firstOfSeveral() {
        Edge.ends("1/0+[1][1]", QUOTIENT);
        Edge.ends("[1][1]+1/0", INDEX);
        Edge.ends("[iota(0-1),[max(iota(0))]]", SIZE);
        Edge.ends("[[max(iota(0))],iota(0-1)]", EMPTY);
        Edge.ends("pack([1/0],[1,2])", QUOTIENT);
        Edge.ends("def f(x:int,y:int)=1/0; f(1,[1][1])", INDEX);
        // Place by place, or part by part.
        Edge.ends("{[1/x,[1][x]]:x in [1,0]}", INDEX, QUOTIENT);
        Edge.ends("{[1/x,[1][x]]:x in [0,1]}", QUOTIENT, QUOTIENT);
        Edge.ends("{[1][x]:x in [1,0]|1/x}", INDEX, QUOTIENT);
        Edge.ends("{if x then [1][x] else 1/x:x in [0,1]}", QUOTIENT, INDEX);
    }

    /** "A FINDING in any LANE ends it: of a STEP that of the least LANE" */
    private static void leastLane() {
        Edge.ends("{part([1],[x]):x in [1,2,0-1]}", LENGTH);
        Edge.ends("{part([1],[x]):x in [1,0-1,2]}", SIZE);
        Edge.ends("{perm([1,2],p):p in [[0,1],[0,0],[0]]}", PERM);
        Edge.ends("{perm([1,2],p):p in [[0,1],[0],[0,0]]}", LENGTH);
        // In the last of 200 lanes alone.
        Edge.ends("{1/(199-x):x in iota(200)}", QUOTIENT);
        Edge.comes("sum({1/(200-x):x in iota(200)})", "1");
    }
}
