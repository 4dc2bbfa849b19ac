/-! who, look: the reference's walk -/
def RRm (B : gMB) (H : gMG) (A : RA) (R : gMR) : Prop := AOk B H A ∧ R.1 = A (phC B H) ∧ (S10 R.2.1 ∧ ∀ g, 0 ≤ g → g < 10 → sb R.2.1 g = decide (0 < A (phG B H g))) ∧ (S10 R.2.2.1 ∧ ∀ g, 0 ≤ g → g < 10 → sb R.2.2.1 g = decide (A (phG B H g) = A (phC B H))) ∧ ∀ c h, 0 ≤ c → c < B.1 → 0 ≤ h → h < 11 → R.2.2.2 (11 * c + h) = A (phT B H c h)
theorem all_b : (List.range 10).all (fun k => (1023 : Nat).testBit k) = true := by decide
theorem sb_1023 {g : Int} (g0 : 0 ≤ g) (g1 : g < 10) : sb 1023 g = true := by
  have := List.all_eq_true.mp all_b g.toNat (List.mem_range.mpr (by omega))
  exact this
theorem RRm_0 {B : gMB} {H : gMG} {f : Int → Int} (hB : BOk B) (hf : ∀ j, 0 ≤ j → j < 110 → f j = 0) : RRm B H (fun _ => 0) (0, 0, 1023, f) := by
  have hn := hB.1
  exact ⟨⟨Int.le_refl 0, fun _ => ⟨Int.le_refl 0, Int.le_refl 0⟩, fun _ _ => ⟨Int.le_refl 0, Int.le_refl 0⟩⟩, rfl, ⟨S10_0, fun g _ _ => sb_0 g⟩, ⟨⟨by show (0 : Int) ≤ 1023; decide, by show (1023 : Int) < 1024; decide⟩, fun g g0 g1 => sb_1023 g0 g1⟩, fun c h c0 c1 h0 h1 => hf _ (by omega) (by omega)⟩
theorem RRm_no {B : gMB} {H : gMG} {A : RA} {R : gMR} {b : Int} {N : gMN} (h : RRm B H A R) (s : soB B H N = false) : RRm B H (radd A b N) R := by
  have s' : ¬ soB B H N = true := by rw [s]; decide
  have e1 : radd A b N (phC B H) = A (phC B H) := by unfold radd; rw [show phC B H b N = 0 from if_neg s', Int.add_zero]
  have e2 : ∀ g, radd A b N (phG B H g) = A (phG B H g) := fun g => by unfold radd; rw [show phG B H g b N = 0 from if_neg (fun q => s' q.1), Int.add_zero]
  have e3 : ∀ c h, radd A b N (phT B H c h) = A (phT B H c h) := fun c h => by unfold radd; rw [show phT B H c h b N = 0 from if_neg (fun q => s' q.1), Int.add_zero]
  obtain ⟨h0, h1, h2, h3, h4⟩ := h
  exact ⟨AOk_add h0, by rw [e1]; exact h1, ⟨h2.1, fun g g0 g1 => by rw [e2]; exact h2.2 g g0 g1⟩, ⟨h3.1, fun g g0 g1 => by rw [e1, e2]; exact h3.2 g g0 g1⟩, fun c x c0 c1 x0 x1 => by rw [e3]; exact h4 c x c0 c1 x0 x1⟩
theorem hgt_r10 {B : gMB} {N : gMN} (hB : BOk B) (hN : NOk B N) {i : Int} (i0 : 0 ≤ i) (hi : i < B.1) : 0 ≤ hgt B N i ∧ hgt B N i ≤ 10 := by
  have hh := hgt_r (B := B) (N := N) (c := i) (hN.nr hB)
  have h10 := hst_10 hB hN
  have := hst_ge (B := B) (N := N) i0 hi
  omega
theorem s_rtall {B : gMB} {H : gMG} {N : gMN} {L : gML} {Z : gMZ} {A : RA} {R : gMR} {b x1 x2 : Int} {K : Int → Int → gMN → gML → gMZ → gMR → Prop} {Q : gMN → gML → gMZ → gMR → Prop} (hB : BOk B) (hN : NOk B N) (so : soB B H N = true) (hb : S10 b) (hR : RRm B H A R) (h : ∀ R', RRm B H (radd A b N) R' → K x1 x2 N L Z R') : ∃ m, wp_X7_layWho_181 B K Q m x1 x2 0 N L Z (R.1 + 1, ior R.2.1 b, iand R.2.2.1 b, R.2.2.2) := by
  have hn := hB.1
  obtain ⟨h0, h1, h2, h3, h4⟩ := hR
  refine lp_inv (fun m i (f : Int → Int) => wp_X7_layWho_181 B K Q m x1 x2 i N L Z (R.1 + 1, ior R.2.1 b, iand R.2.2.1 b, f)) B.1 (fun i f => 0 ≤ i ∧ ∀ c h, 0 ≤ c → c < B.1 → 0 ≤ h → h < 11 → f (11 * c + h) = A (phT B H c h) + (if c < i ∧ hgt B N c = h then 1 else 0)) ?_ ?_ 0 R.2.2.2 (by omega) ⟨by omega, fun c x c0 c1 x0 x1 => by rw [h4 c x c0 c1 x0 x1, if_neg (fun q => by omega)]; omega⟩
  · rintro m f ⟨_, e⟩
    show wp_X7_layWho_181 _ _ _ (m + 1) _ _ _ _ _ _ _
    unfold wp_X7_layWho_181
    refine ⟨⟨by omega, by omega⟩, ⟨by omega, by omega⟩, fun _ => h _ ⟨AOk_add h0, ?_, ⟨S10_or h2.1 hb, fun g g0 g1 => ?_⟩, ⟨S10_and h3.1 hb, fun g g0 g1 => ?_⟩, fun c x c0 c1 x0 x1 => ?_⟩, fun q => absurd (Int.le_refl _) q⟩
    · show R.1 + 1 = _
      unfold radd
      rw [h1, show phC B H b N = 1 from if_pos so]
    · have hg := h0.2.1 g
      show sb (ior R.2.1 b) g = _
      rw [sb_or h2.1 hb, h2.2 g g0 g1]
      unfold radd phG
      cases hbg : sb b g
      · rw [if_neg (fun q => absurd q.2 (by decide)), Int.add_zero, Bool.or_false]
      · unfold phG at hg
        rw [if_pos ⟨so, rfl⟩, Bool.or_true, decide_eq_true (by omega)]
    · have hg := h0.2.1 g
      show sb (iand R.2.2.1 b) g = _
      rw [sb_and h3.1 hb, h3.2 g g0 g1]
      unfold radd
      rw [show phC B H b N = 1 from if_pos so]
      cases hbg : sb b g
      · rw [show phG B H g b N = 0 from if_neg (fun q => by rw [hbg] at q; exact absurd q.2 (by decide)), Bool.and_false, decide_eq_false (by omega)]
      · rw [show phG B H g b N = 1 from if_pos ⟨so, hbg⟩, Bool.and_true]
        exact decide_eq_decide.mpr (by omega)
    · show f (11 * c + x) = _
      rw [e c x c0 c1 x0 x1]
      unfold radd phT
      by_cases q : hgt B N c = x
      · rw [if_pos ⟨c1, q⟩, if_pos ⟨so, q⟩]
      · rw [if_neg (fun w => q w.2), if_neg (fun w => q w.2)]
  · rintro m i f hlt ⟨i0, e⟩ ih
    have hh := hgt_r10 hB hN i0 hlt
    show wp_X7_layWho_181 _ _ _ (m + 1) _ _ _ _ _ _ _
    unfold wp_X7_layWho_181
    refine ⟨⟨by omega, by omega⟩, ⟨by omega, by omega⟩, fun q => by omega, fun _ => s_X7_heightOf (hN.nr hB) ⟨by omega, by omega⟩ ⟨⟨by omega, by omega⟩, ih _ ⟨by omega, fun c x c0 c1 x0 x1 => ?_⟩⟩⟩
    dsimp only
    by_cases q : c = i ∧ hgt B N i = x
    · rw [q.1, ← q.2, aset_s, e i (hgt B N i) i0 hlt hh.1 (by omega), if_neg (by omega), if_pos ⟨by omega, rfl⟩]; omega
    · rw [aset_n (by omega), e c x c0 c1 x0 x1]
      congr 1
      by_cases w : c < i ∧ hgt B N c = x
      · rw [if_pos w, if_pos ⟨by omega, w.2⟩]
      · rw [if_neg w, if_neg (fun z => by
          by_cases ec : c = i
          · rw [ec] at z; exact q ⟨ec, z.2⟩
          · exact w ⟨by omega, z.2⟩)]
theorem s_rbits {p : Nat} {x x2 : Int} {N : gMN} {L : gML} {Z : gMZ} {R : gMR} {K : Int → Int → Int → gMN → gML → gMZ → gMR → Prop} {Q : gMN → gML → gMZ → gMR → Prop} (hp : p ≤ 3) (x0 : 0 ≤ x) (hz : ∀ k : Nat, k < p → Z k = x / p100 k % 10) (h : S10 (bhq p 0 x) → K p x2 (bhq p 0 x) N L Z R) : ∃ m, wp_X7_layWho_120 K Q m p x2 0 0 N L Z R := by
  refine lp_inv (fun n i (b : Int) => wp_X7_layWho_120 K Q n p x2 b i N L Z R) p (fun i b => ∃ t j : Nat, i = t ∧ t + j = p ∧ S10 b ∧ bhq j b (x / p100 t) = bhq p 0 x) ?_ ?_ 0 0 (by omega) ⟨0, p, rfl, by omega, S10_0, by rw [show p100 0 = 1 from rfl, Int.ediv_one]⟩
  · rintro n b ⟨t, j, et, ej, hs, e⟩
    have j0 : j = 0 := by omega
    subst j0
    have e : b = bhq p 0 x := e
    show wp_X7_layWho_120 _ _ (n + 1) _ _ _ _ _ _ _ _
    unfold wp_X7_layWho_120
    refine ⟨⟨by omega, by omega⟩, ⟨by omega, by omega⟩, fun _ => ?_, fun q => absurd (Int.le_refl _) q⟩
    rw [e] at hs ⊢
    exact h hs
  · rintro n i b hlt ⟨t, j, et, ej, hs, e⟩ ih
    obtain ⟨j, rfl⟩ : ∃ j', j = j' + 1 := ⟨j - 1, by omega⟩
    subst et
    have e : bhq j (ior b (ishl 1 (x / p100 t % 10))) (x / p100 t / 100) = bhq p 0 x := e
    rw [div_p100] at e
    show wp_X7_layWho_120 _ _ (n + 1) _ _ _ _ _ _ _ _
    unfold wp_X7_layWho_120
    rw [hz t (by omega)]
    exact ⟨⟨by omega, by omega⟩, ⟨by omega, by omega⟩, fun q => by omega, fun _ => ⟨⟨by omega, by omega⟩, ih _ ⟨t + 1, j, by omega, by omega, S10_or hs (S10_shl ⟨by omega, by omega⟩), e⟩⟩⟩
theorem s_rso {B : gMB} {G : gGG} {H : gMG} {N : gMN} {L : gML} {Z : gMZ} {R : gMR} {x1 x2 : Int} {K : Int → Int → Int → gMN → gML → gMZ → gMR → Prop} {Q : gMN → gML → gMZ → gMR → Prop} (hB : BOk B) (hN : NOk B N) (hG : GR B.1 G H) (h : K x1 x2 (bI (soB B H N)) N L Z R) : ∃ m, wp_X7_layWho_58 B H K Q m x1 x2 1 0 N L Z R := by
  have hn := hB.1
  obtain ⟨e1, e2, e3⟩ := hG
  have done0 : soB B H N = false → K x1 x2 0 N L Z R := fun s => by rw [s] at h; exact h
  refine lp_inv (fun n i (f : Int) => wp_X7_layWho_58 B H K Q n x1 x2 f i N L Z R) H.1 (fun i f => 0 ≤ i ∧ ((f = 1 ∧ ∀ k, 0 ≤ k → k < i → hgt B N (H.2 (2 * k)) = H.2 (2 * k + 1)) ∨ (f = 0 ∧ soB B H N = false))) ?_ ?_ 0 1 (by omega) ⟨by omega, Or.inl ⟨rfl, fun k _ _ => by omega⟩⟩
  · rintro n f ⟨i0, e⟩
    show wp_X7_layWho_58 _ _ _ _ (n + 1) _ _ _ _ _ _ _ _
    unfold wp_X7_layWho_58
    refine ⟨⟨by omega, by omega⟩, ⟨by omega, by omega⟩, fun _ => ?_, fun q => absurd (Int.le_refl _) q⟩
    rcases e with ⟨rfl, e⟩ | ⟨rfl, e⟩
    · rw [(so_iff i0).mpr e] at h; exact h
    · exact done0 e
  · rintro n i f hlt ⟨i0, e⟩ ih
    obtain ⟨f1, f2, f3, f4⟩ := e3 i i0 hlt
    show wp_X7_layWho_58 _ _ _ _ (n + 1) _ _ _ _ _ _ _ _
    unfold wp_X7_layWho_58
    rcases e with ⟨rfl, e⟩ | ⟨rfl, e⟩
    · have hh := hgt_r10 hB hN f3.1 f3.2
      refine ⟨⟨by omega, by omega⟩, ⟨by omega, by omega⟩, fun q => by omega, fun _ => ⟨by decide, fun q => absurd q (by decide), fun _ => ⟨⟨by omega, by omega⟩, s_X7_heightOf (hN.nr hB) ⟨by omega, by omega⟩ ⟨⟨by omega, by omega⟩, ⟨by omega, by omega⟩, ⟨by omega, by omega⟩, fun z => ih 0 ⟨by omega, Or.inr ⟨rfl, ?_⟩⟩, fun z => ih 1 ⟨by omega, Or.inl ⟨rfl, fun k k0 k1 => ?_⟩⟩⟩⟩⟩⟩
      · cases hs : soB B H N
        · rfl
        · exact absurd ((so_iff (by omega)).mp hs i i0 hlt) z
      · by_cases q : k = i
        · subst q; exact Decidable.of_not_not z
        · exact e k k0 (by omega)
    · exact ⟨⟨by omega, by omega⟩, ⟨by omega, by omega⟩, fun q => by omega, fun _ => ⟨by decide, fun _ => done0 e, fun q => absurd rfl q⟩⟩
def rsF (B : gMB) (p : Nat) (N : gMN) (φ : Int → gMN → Int) (x : Int) : Int := if shq B p N x = true then φ (bhq p 0 x) (shf B p N x) else 0
theorem s_X7_layWho {B : gMB} {P : gMP} {N : gMN} {L : gML} {G : gGG} {H : gMG} {Z : gMZ} {R : gMR} {p : Nat} {Q : gMN → gML → gMZ → gMR → Prop} (hI : Inv B P) (hN : Scr N L) (hG : GR B.1 G H) (hp : p ≤ 2) (h : ∀ N' L' Z' R', Scr N' L' → RRm B H (WA B P p) R' → Q N' L' Z' R') : wp_X7_layWho B P N L H Z R p Q := by
  have hB := hI.1
  have hp3 := p100_3 (show p ≤ 3 by omega)
  unfold wp_X7_layWho
  refine lp_inv (fun n i (f : Int → Int) => wp_X7_layWho_19 _ Q n p i N L Z (0, 0, 1023, f)) 110 (fun i f => 0 ≤ i ∧ ∀ j, 0 ≤ j → j < i → f j = 0) ?_ ?_ 0 R.2.2.2 (by omega) ⟨by omega, fun j _ _ => by omega⟩
  · rintro n f ⟨_, ef⟩
    show wp_X7_layWho_19 _ _ (n + 1) _ _ _ _ _ _
    unfold wp_X7_layWho_19
    refine ⟨by decide, fun _ => ?_, fun q => absurd (Int.le_refl _) q⟩
    refine lp_inv (fun n2 i (s : gMN × gML × gMZ × gMR) => wp_X7_layWho_40 B P H (fun (N_h : gMN) (L_h : gML) (Z_h : gMZ) (R_h : gMR) => Q N_h L_h Z_h R_h) Q n2 p i s.1 s.2.1 s.2.2.1 s.2.2.2) (p100 p) (fun i s => 0 ≤ i ∧ Scr s.1 s.2.1 ∧ RRm B H (fun φ => sm (rsF B p P φ) 0 i) s.2.2.2) ?_ ?_ 0 (N, L, Z, (0, 0, 1023, f)) (by omega) ⟨by omega, hN, by
      rw [show (fun φ => sm (rsF B p P φ) 0 0) = fun _ => (0 : Int) from funext fun φ => sm_0 (by omega)]
      exact RRm_0 hB ef⟩
    · rintro n2 ⟨N2, L2, Z2, R2⟩ ⟨_, hs, hr⟩
      dsimp only at hs hr
      show wp_X7_layWho_40 _ _ _ _ _ (n2 + 1) _ _ _ _ _ _
      unfold wp_X7_layWho_40
      refine s_codes (by omega) ⟨⟨by omega, by omega⟩, ⟨by omega, by omega⟩, fun _ => h _ _ _ _ hs ?_, fun q => absurd (Int.le_refl _) q⟩
      rw [show WA B P (p : Int) = fun φ => sm (rsF B p P φ) 0 (p100 p) from funext fun φ => by unfold WA; rw [Int.toNat_natCast, WS_RS]; rfl]
      exact hr
    · rintro n2 i ⟨N2, L2, Z2, R2⟩ hlt ⟨i0, hs, hr⟩ ih
      dsimp only at hs hr
      have step : (fun φ => sm (rsF B p P φ) 0 (i + 1)) = fun φ => sm (rsF B p P φ) 0 i + rsF B p P φ i := funext fun φ => sm_s i0
      show wp_X7_layWho_40 _ _ _ _ _ (n2 + 1) _ _ _ _ _ _
      unfold wp_X7_layWho_40
      refine s_codes (by omega) ⟨⟨by omega, by omega⟩, ⟨by omega, by omega⟩, fun q => by omega, fun _ => s_X7_putsByZ hI hs (by omega) i0 hlt (fun sq L3 Z3 hI3 hL3 hz3 => ?_) (fun sq N3 L3 Z3 hs3 => ?_)⟩
      · refine s_rso hI3.1 hI3.2.1 hG ?_
        have e1 : (fun φ => sm (rsF B p P φ) 0 (i + 1)) = radd (fun φ => sm (rsF B p P φ) 0 i) (bhq p 0 i) (shf B p P i) := by
          rw [step]
          exact funext fun φ => congrArg (_ + ·) (if_pos sq)
        have nx : ∀ R3, RRm B H (radd (fun φ => sm (rsF B p P φ) 0 i) (bhq p 0 i) (shf B p P i)) R3 → wp_X7_layWho_40 B P H (fun (N_h : gMN) (L_h : gML) (Z_h : gMZ) (R_h : gMR) => Q N_h L_h Z_h R_h) Q n2 p (i + 1) (shf B p P i) L3 Z3 R3 := fun R3 h3 => ih (shf B p P i, L3, Z3, R3) ⟨by omega, ⟨hI3.2.1.1, hL3⟩, by rw [e1]; exact h3⟩
        unfold wp_X7_layWho_110
        cases so : soB B H (shf B p P i)
        · exact ⟨by decide, fun _ => nx _ (RRm_no hr so), fun q => absurd rfl q⟩
        · refine ⟨by decide, fun q => absurd q (by decide), fun _ => s_rbits (by omega) i0 hz3 (fun hb => ?_)⟩
          exact s_rtall hI3.1 hI3.2.1 so hb hr nx
      · have nx : wp_X7_layWho_40 B P H (fun (N_h : gMN) (L_h : gML) (Z_h : gMZ) (R_h : gMR) => Q N_h L_h Z_h R_h) Q n2 p (i + 1) N3 L3 Z3 R2 := ih (N3, L3, Z3, R2) ⟨by omega, hs3, by
          rw [step, show (fun φ => sm (rsF B p P φ) 0 i + rsF B p P φ i) = fun φ => sm (rsF B p P φ) 0 i from funext fun φ => by
            rw [show rsF B p P φ i = 0 from if_neg (by rw [sq]; decide), Int.add_zero]]
          exact hr⟩
        have k0 : wp_X7_layWho_110 B (fun (x1 : Int) (x2 : Int) (N_h : gMN) (L_h : gML) (Z_h : gMZ) (R_h : gMR) => wp_X7_layWho_40 B P H (fun (N_h : gMN) (L_h : gML) (Z_h : gMZ) (R_h : gMR) => Q N_h L_h Z_h R_h) Q n2 x1 x2 N_h L_h Z_h R_h) Q p i 0 N3 L3 Z3 R2 := by
          unfold wp_X7_layWho_110
          exact ⟨by decide, fun _ => nx, fun q => absurd rfl q⟩
        refine ⟨1, ?_⟩
        have hg := hG.2.1
        unfold wp_X7_layWho_58
        exact ⟨by decide, ⟨by omega, by omega⟩, fun _ => k0, fun _ => ⟨by decide, fun _ => k0, fun q => absurd rfl q⟩⟩
  · rintro n i f hlt ⟨i0, e⟩ ih
    show wp_X7_layWho_19 _ _ (n + 1) _ _ _ _ _ _
    unfold wp_X7_layWho_19
    refine ⟨⟨by omega, by omega⟩, fun q => by omega, fun _ => ⟨⟨by omega, by omega⟩, ih _ ⟨by omega, fun j j0 j1 => ?_⟩⟩⟩
    by_cases q : j = i
    · subst q; exact aset_s
    · rw [aset_n q]; exact e j j0 (by omega)
