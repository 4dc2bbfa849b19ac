/-! who, look: the class adds a row -/
theorem s_add3 {B : gMB} {H : gMG} {N : gMN} {T : gWT} {A : RA} {R : gRR} {b : Int} {Q : gRR → Prop} (hB : BOk B) (hN : NOk B N) (hT : TR B N T) (so : soB B H N = true) (hb : S10 b) (hA : A (phC B H) ≤ 2000000) (hR : RRel B H A R) (h : ∀ R', RRel B H (radd A b N) R' → Q R') : wp_X3_add R T b Q := by
  obtain ⟨h0, h1, h2, h3, h4⟩ := id hR
  have hr0 := h0.1
  have eC : radd A b N (phC B H) = A (phC B H) + 1 := by unfold radd; rw [show phC B H b N = 1 from if_pos so]
  have eG : ∀ g, radd A b N (phG B H g) = A (phG B H g) + bI (sb b g) := fun g => by
    unfold radd phG bI
    by_cases q : sb b g = true
    · rw [if_pos ⟨so, q⟩, if_pos q]
    · rw [if_neg (fun w => q w.2), if_neg q]
  have some_ : S10 (ior R.2.1 b) ∧ ∀ g, 0 ≤ g → g < 10 → sb (ior R.2.1 b) g = decide (0 < radd A b N (phG B H g)) := ⟨S10_or h2.1 hb, fun g g0 g1 => by
    have hg := h0.2.1 g
    rw [sb_or h2.1 hb, h2.2 g g0 g1, eG]
    cases hbg : sb b g
    · rw [Bool.or_false]; exact decide_eq_decide.mpr (by unfold bI; simp)
    · rw [Bool.or_true, decide_eq_true (by unfold bI; rw [if_pos rfl]; omega)]⟩
  unfold wp_X3_add
  refine ⟨⟨by omega, by omega⟩, fun z => s_add33 hB hN hT so hR (fun f hf => h _ ⟨AOk_add h0, by rw [eC, ← h1], some_, ⟨S10_and h3.1 hb, fun _ g g0 g1 => ?_, fun q => by omega⟩, hf⟩), fun z => s_add33 hB hN hT so hR (fun f hf => h _ ⟨AOk_add h0, by rw [eC, ← h1], some_, ⟨hb, fun _ g g0 g1 => ?_, fun q => by omega⟩, hf⟩)⟩
  · have hg := h0.2.1 g
    show sb (iand R.2.2.1 b) g = _
    rw [sb_and h3.1 hb, h3.2.1 (by omega) g g0 g1, eG, eC]
    cases hbg : sb b g
    · rw [Bool.and_false, decide_eq_false (by unfold bI; simp; omega)]
    · rw [Bool.and_true]; exact decide_eq_decide.mpr (by unfold bI; rw [if_pos rfl]; omega)
  · have hg := h0.2.1 g
    show sb b g = _
    rw [eG, eC]
    cases hbg : sb b g
    · rw [decide_eq_false (by unfold bI; simp; omega)]
    · rw [decide_eq_true (by unfold bI; rw [if_pos rfl]; omega)]
