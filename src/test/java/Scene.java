import java.util.ArrayList;
import java.util.List;

/**
 * A run of calls as text: "place 0; 20* thing 0 3; many 0 = 20". A number with a star tells how often; behind = stands
 * the answer that is due.
 */
final class Scene {
    final List<String> calls;

    private Scene(List<String> calls) {
        this.calls = List.copyOf(calls);
    }

    static Scene of(String... texts) {
        List<String> all = new ArrayList<>();
        for (String text : texts) {
            for (String call : text.split(";")) {
                addTo(all, call.trim());
            }
        }
        return new Scene(all);
    }

    private static void addTo(List<String> all, String call) {
        if (call.isEmpty()) {
            return;
        }
        int star = call.indexOf("* ");
        int times = star < 0 ? 1 : Integer.parseInt(call.substring(0, star));
        for (int i = 0; i < times; i++) {
            all.add(star < 0 ? call : call.substring(star + 2));
        }
    }

    Scene then(String... texts) {
        List<String> all = new ArrayList<>(calls);
        all.addAll(of(texts).calls);
        return new Scene(all);
    }
}
