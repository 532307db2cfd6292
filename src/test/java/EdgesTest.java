import java.nio.file.Path;

/** The document's boundary cases, sentence by sentence; each of its sentences needs a test. */
final class EdgesTest {
    private final Checks checks;
    private final Sentences sentences;

    EdgesTest(Checks checks, String document) throws Exception {
        this.checks = checks;
        this.sentences = new Sentences(Path.of(document));
    }

    void run() {
        Edges edges = new Edges(checks, sentences);
        part(() -> new HeadEdges(edges).run());
        part(() -> new DayEdges(edges).run());
        part(() -> new TextEdges(edges).run());
        part(() -> new ReservoirEdges(edges).run());
        part(() -> new RoofEdges(edges).run());
        part(() -> new UserEdges(edges).run());
        part(() -> new RainEdges(edges).run());
        part(() -> new RunEdges(edges).run());
        part(() -> new WhatIfEdges(edges).run());
        part(() -> new StateEdges(edges).run());
        checks.begin("the document");
        for (String sentence : sentences.withoutTest()) {
            checks.hold(false, "no test names " + sentence);
        }
    }

    /** A call that throws where an answer is due fails the sentence that is being tested. */
    private void part(Runnable tests) {
        try {
            tests.run();
        } catch (RuntimeException e) {
            checks.hold(false, "a call threw " + e);
        }
    }
}
