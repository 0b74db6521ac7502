/** Promise 30 in nets where many draws are refused: each answer as the plain model gives it. */
public final class DrawnTest {
    private static final Checker C = new Checker("DrawnTest");

    private DrawnTest() {
    }

    public static void main(String[] args) {
        compare("rings", "towns 3;road 0 1 2;road 1 0 3;road 1 2 1;road 2 0 2", "close 1;length 1 -9");
        compare("too far", "towns 4;road 0 3 1;road 0 1 1000000000;road 1 2 1000000000", "lay 2 3 1000000000;lay 3 2 -5");
        compare("closed ones", "towns 3;road 0 1 -90;road 1 2 9990;road 0 2 5", "close 0;close 2");
        C.end();
    }

    private static void compare(String name, String net, String orders) {
        Model model = new Model();
        feed(model, net);
        model.net(net.length());
        feed(model, orders);
        model.orders(orders.length());
        for (int seed = 0; seed < 65536; seed += 331) {
            KeptWays mine = Texts.withNet(net);
            Texts.orders(mine, orders);
            C.due(name + ": turn", mine.count(5), model.count(5));
            mine.seed(seed);
            model.seed(seed);
            for (int n : new int[] {1, 2, 7, 60}) {
                for (int town = 0; town < model.count(0); town++) {
                    C.due(name + ": seed " + seed + ": drawn(" + n + ", " + town + ")", mine.drawn(n, town), model.drawn(n, town));
                }
            }
        }
    }

    private static void feed(Model model, String text) {
        for (int at = 0; at < text.length(); at += 20) {
            model.feed(Texts.four(text, at), Texts.four(text, at + 4), Texts.four(text, at + 8), Texts.four(text, at + 12), Texts.four(text, at + 16));
        }
    }
}
