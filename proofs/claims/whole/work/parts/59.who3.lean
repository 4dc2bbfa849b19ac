/-! who, look: what the rows hold -/
def phC (B : gMB) (H : gMG) : Int → gMN → Int := fun _ M => if soB B H M = true then 1 else 0
def phG (B : gMB) (H : gMG) (g : Int) : Int → gMN → Int := fun b M => if soB B H M = true ∧ sb b g = true then 1 else 0
def phT (B : gMB) (H : gMG) (c h : Int) : Int → gMN → Int := fun _ M => if soB B H M = true ∧ hgt B M c = h then 1 else 0
abbrev RA : Type := (Int → gMN → Int) → Int
def AOk (B : gMB) (H : gMG) (A : RA) : Prop := (0 ≤ A (phC B H)) ∧ (∀ g, 0 ≤ A (phG B H g) ∧ A (phG B H g) ≤ A (phC B H)) ∧ ∀ c h, 0 ≤ A (phT B H c h) ∧ A (phT B H c h) ≤ A (phC B H)
def RRel (B : gMB) (H : gMG) (A : RA) (R : gRR) : Prop := AOk B H A ∧ R.1 = A (phC B H) ∧ (S10 R.2.1 ∧ ∀ g, 0 ≤ g → g < 10 → sb R.2.1 g = decide (0 < A (phG B H g))) ∧ (S10 R.2.2.1 ∧ (A (phC B H) ≠ 0 → ∀ g, 0 ≤ g → g < 10 → sb R.2.2.1 g = decide (A (phG B H g) = A (phC B H))) ∧ (A (phC B H) = 0 → R.2.2.1 = 0)) ∧ ∀ c h, 0 ≤ c → c < 9 → 0 ≤ h → h < 11 → R.2.2.2 (c * 11 + h) = A (phT B H c h)
def radd (A : RA) (b : Int) (N : gMN) : RA := fun φ => A φ + φ b N
theorem AOk_add {B : gMB} {H : gMG} {A : RA} {b : Int} {N : gMN} (h : AOk B H A) : AOk B H (radd A b N) := by
  obtain ⟨h1, h2, h3⟩ := h
  refine ⟨?_, fun g => ?_, fun c x => ?_⟩
  · unfold radd phC at *; split <;> omega
  · have := h2 g
    unfold radd phC phG at *
    by_cases s : soB B H N = true
    · rw [if_pos s]
      by_cases t : sb b g = true
      · rw [if_pos ⟨s, t⟩]; omega
      · rw [if_neg (fun q => t q.2)]; omega
    · rw [if_neg s, if_neg (fun q => s q.1)]; omega
  · have := h3 c x
    unfold radd phC phT at *
    by_cases s : soB B H N = true
    · rw [if_pos s]
      by_cases t : hgt B N c = x
      · rw [if_pos ⟨s, t⟩]; omega
      · rw [if_neg (fun q => t q.2)]; omega
    · rw [if_neg s, if_neg (fun q => s q.1)]; omega
theorem RRel_no {B : gMB} {H : gMG} {A : RA} {R : gRR} {b : Int} {N : gMN} (h : RRel B H A R) (s : soB B H N = false) : RRel B H (radd A b N) R := by
  have s' : ¬ soB B H N = true := by rw [s]; decide
  have e1 : radd A b N (phC B H) = A (phC B H) := by unfold radd; rw [show phC B H b N = 0 from if_neg s', Int.add_zero]
  have e2 : ∀ g, radd A b N (phG B H g) = A (phG B H g) := fun g => by unfold radd; rw [show phG B H g b N = 0 from if_neg (fun q => s' q.1), Int.add_zero]
  have e3 : ∀ c h, radd A b N (phT B H c h) = A (phT B H c h) := fun c h => by unfold radd; rw [show phT B H c h b N = 0 from if_neg (fun q => s' q.1), Int.add_zero]
  obtain ⟨h0, h1, h2, h3, h4⟩ := h
  refine ⟨AOk_add h0, by rw [e1]; exact h1, ⟨h2.1, fun g g0 g1 => by rw [e2]; exact h2.2 g g0 g1⟩, ⟨h3.1, fun q g g0 g1 => ?_, fun q => h3.2.2 (by rw [← e1]; exact q)⟩, fun c x c0 c1 x0 x1 => by rw [e3]; exact h4 c x c0 c1 x0 x1⟩
  rw [e1] at q
  rw [e1, e2]; exact h3.2.1 q g g0 g1
theorem s_add33 {B : gMB} {H : gMG} {N : gMN} {T : gWT} {A : RA} {R : gRR} {b s1 s2 : Int} {Q : gRR → Prop} (hB : BOk B) (hN : NOk B N) (hT : TR B N T) (so : soB B H N = true) (hR : RRel B H A R) (h : ∀ f, (∀ c h, 0 ≤ c → c < 9 → 0 ≤ h → h < 11 → f (c * 11 + h) = radd A b N (phT B H c h)) → Q (R.1 + 1, s2, s1, f)) : wp_X3_add_33 T Q s1 (R.1, s2, R.2.2.1, R.2.2.2) := by
  obtain ⟨h0, h1, h2, h3, h4⟩ := hR
  unfold wp_X3_add_33
  refine lp_inv (fun m i (f : Int → Int) => wp_X3_add_48 T (fun R => Q R) Q m i (R.1 + 1, s2, s1, f)) 9 (fun i f => 0 ≤ i ∧ ∀ c h, 0 ≤ c → c < 9 → 0 ≤ h → h < 11 → f (c * 11 + h) = A (phT B H c h) + (if c < i ∧ hgt B N c = h then 1 else 0)) ?_ ?_ 0 R.2.2.2 (by omega) ⟨by omega, fun c x c0 c1 x0 x1 => by rw [h4 c x c0 c1 x0 x1, if_neg (fun q => by omega)]; omega⟩
  · rintro m f ⟨_, e⟩
    show wp_X3_add_48 _ _ _ (m + 1) _ _
    unfold wp_X3_add_48
    refine ⟨by decide, fun _ => h f (fun c x c0 c1 x0 x1 => ?_), fun q => absurd (Int.le_refl _) q⟩
    rw [e c x c0 c1 x0 x1]
    unfold radd phT
    by_cases q : hgt B N c = x
    · rw [if_pos ⟨c1, q⟩, if_pos ⟨so, q⟩]
    · rw [if_neg (fun w => q w.2), if_neg (fun w => q w.2)]
  · rintro m i f hlt ⟨i0, e⟩ ih
    have hh := hgt_r (B := B) (N := N) (c := i) (hN.nr hB)
    have h10 : hgt B N i ≤ 10 := by
      have := hst_10 hB hN
      by_cases q : i < B.1
      · have := hst_ge (B := B) (N := N) i0 q; omega
      · have : hgt B N i = 0 := hgt_eq (fun g g0 g1 w => by
          have := hN.2 g g0 g1
          have := w.1
          have := w.2
          omega) (Or.inl rfl) (Int.le_refl 0)
        omega
    show wp_X3_add_48 _ _ _ (m + 1) _ _
    unfold wp_X3_add_48
    refine ⟨⟨by omega, by omega⟩, fun q => by omega, fun _ => s_at ⟨i0, hlt⟩ (by decide) ?_⟩
    rw [hT.2.2.2 i i0 hlt]
    refine s_at ⟨by omega, by omega⟩ (by decide) (s_set ⟨by omega, by omega⟩ (by decide) (ih _ ⟨by omega, fun c x c0 c1 x0 x1 => ?_⟩))
    dsimp only
    by_cases q : c = i ∧ hgt B N i = x
    · rw [q.1, ← q.2, aset_s, e i (hgt B N i) i0 hlt hh.1 (by omega), if_neg (by omega), if_pos ⟨by omega, rfl⟩]; omega
    · rw [aset_n (by omega), e c x c0 c1 x0 x1]
      congr 1
      by_cases w : c < i ∧ hgt B N c = x
      · rw [if_pos w, if_pos ⟨by omega, w.2⟩]
      · rw [if_neg w, if_neg (fun z => by
          by_cases ec : c = i
          · rw [ec] at z; exact q ⟨ec, z.2⟩
          · exact w ⟨by omega, z.2⟩)]
