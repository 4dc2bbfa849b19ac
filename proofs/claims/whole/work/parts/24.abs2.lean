/-! PUT and TAKE of the abstract wall; what stays true -/
def rowF (B : gMB) (N : gMN) : Int → Int → Int := fun k r => if r < hgt B N k then hgt B N k else r
def prow (B : gMB) (N : gMN) (g c : Int) : Int := itI (rowF B N) c (c + B.2.2.1 g) 0
def ovF (B : gMB) (N : gMN) : Int → Int → Int := fun q w => if w = 0 then (if 0 ≤ N.1 q ∧ 60466176 * B.2.2.2.2 q < ldA B N q then 4 else 0) else w
def ovr (B : gMB) (N : gMN) : Int := itI (ovF B N) 0 10 0
def mput (B : gMB) (N : gMN) (g c : Int) : Int × gMN :=
  if sb B.2.1 g = false ∨ 0 ≤ N.1 g then (1, N) else if B.1 < c + B.2.2.1 g then (2, N) else if ¬ stn B (mset N g (prow B N g c) c) g then (3, N) else if ovr B (mset N g (prow B N g c) c) = 0 then (0, mset N g (prow B N g c) c) else (4, N)
def cvF (B : gMB) (N : gMN) (g : Int) : Int → Int → Int := fun k s => if s = 0 then (if who B N (N.1 g + 1) k < 0 then 0 else 1) else 1
def cvr (B : gMB) (N : gMN) (g : Int) : Int := itI (cvF B N g) (N.2 g) (N.2 g + B.2.2.1 g) 0
def mtake (B : gMB) (N : gMN) (g : Int) : Int × gMN := if N.1 g < 0 then (1, N) else if cvr B N g = 0 then (0, mset N g (-6) (-6)) else (5, N)
theorem prow_is (B : gMB) (N : gMN) (g c : Int) (hw : 0 ≤ B.2.2.1 g) : (∀ k, c ≤ k → k < c + B.2.2.1 g → hgt B N k ≤ prow B N g c) ∧ (prow B N g c = 0 ∨ ∃ k, c ≤ k ∧ k < c + B.2.2.1 g ∧ prow B N g c = hgt B N k) := by
  refine itI_ind (P := fun i r => (∀ k, c ≤ k → k < i → hgt B N k ≤ r) ∧ (r = 0 ∨ ∃ k, c ≤ k ∧ k < i ∧ r = hgt B N k)) (lo := c) (hi := c + B.2.2.1 g) (by omega) ⟨fun k h1 h2 => by omega, Or.inl rfl⟩ (fun i r h1 h2 h3 => ?_)
  obtain ⟨h3, h4⟩ := h3
  by_cases e : r < hgt B N i
  · rw [show rowF B N i r = hgt B N i from if_pos e]
    refine ⟨fun k h5 h6 => ?_, Or.inr ⟨i, h1, by omega, rfl⟩⟩
    by_cases ek : k = i
    · subst ek; exact Int.le_refl _
    · have := h3 k h5 (by omega); omega
  · rw [show rowF B N i r = r from if_neg e]
    refine ⟨fun k h5 h6 => ?_, ?_⟩
    · by_cases ek : k = i
      · subst ek; omega
      · exact h3 k h5 (by omega)
    · rcases h4 with h4 | ⟨k, a, b, d⟩
      · exact Or.inl h4
      · exact Or.inr ⟨k, a, by omega, d⟩
theorem prow_0 (B : gMB) (N : gMN) (g c : Int) (hw : 0 ≤ B.2.2.1 g) : 0 ≤ prow B N g c := by
  rcases (prow_is B N g c hw).2 with h | ⟨k, -, -, h⟩
  · omega
  · have := hgt_0 B N k; omega
theorem ovr_is (B : gMB) (N : gMN) : (ovr B N = 0 ∧ ∀ q, 0 ≤ q → q < 10 → 0 ≤ N.1 q → ldA B N q ≤ 60466176 * B.2.2.2.2 q) ∨ (ovr B N = 4 ∧ ∃ q, 0 ≤ q ∧ q < 10 ∧ 0 ≤ N.1 q ∧ 60466176 * B.2.2.2.2 q < ldA B N q) := by
  refine itI_ind (P := fun i w => (w = 0 ∧ ∀ q, 0 ≤ q → q < i → 0 ≤ N.1 q → ldA B N q ≤ 60466176 * B.2.2.2.2 q) ∨ (w = 4 ∧ ∃ q, 0 ≤ q ∧ q < i ∧ 0 ≤ N.1 q ∧ 60466176 * B.2.2.2.2 q < ldA B N q)) (lo := 0) (hi := 10) (by omega) (Or.inl ⟨rfl, fun q _ _ => by omega⟩) (fun i w h1 h2 h3 => ?_)
  rcases h3 with ⟨rfl, h3⟩ | ⟨rfl, q, a, b, d⟩
  · by_cases e : 0 ≤ N.1 i ∧ 60466176 * B.2.2.2.2 i < ldA B N i
    · rw [show ovF B N i 0 = 4 from (if_pos rfl).trans (if_pos e)]
      exact Or.inr ⟨rfl, i, h1, by omega, e⟩
    · rw [show ovF B N i 0 = 0 from (if_pos rfl).trans (if_neg e)]
      refine Or.inl ⟨rfl, fun q h4 h5 h6 => ?_⟩
      by_cases eq : q = i
      · subst eq; omega
      · exact h3 q h4 (by omega) h6
  · rw [show ovF B N i 4 = 4 from if_neg (by decide)]
    exact Or.inr ⟨rfl, q, a, by omega, d⟩
theorem cvr_is (B : gMB) (N : gMN) (g : Int) (hw : 0 ≤ B.2.2.1 g) : (cvr B N g = 0 ∧ ∀ k, N.2 g ≤ k → k < N.2 g + B.2.2.1 g → who B N (N.1 g + 1) k < 0) ∨ (cvr B N g = 1 ∧ ∃ k, N.2 g ≤ k ∧ k < N.2 g + B.2.2.1 g ∧ 0 ≤ who B N (N.1 g + 1) k) := by
  refine itI_ind (P := fun i w => (w = 0 ∧ ∀ k, N.2 g ≤ k → k < i → who B N (N.1 g + 1) k < 0) ∨ (w = 1 ∧ ∃ k, N.2 g ≤ k ∧ k < i ∧ 0 ≤ who B N (N.1 g + 1) k)) (lo := N.2 g) (hi := N.2 g + B.2.2.1 g) (by omega) (Or.inl ⟨rfl, fun q _ _ => by omega⟩) (fun i w h1 h2 h3 => ?_)
  rcases h3 with ⟨rfl, h3⟩ | ⟨rfl, q, a, b, d⟩
  · by_cases e : who B N (N.1 g + 1) i < 0
    · rw [show cvF B N g i 0 = 0 from (if_pos rfl).trans (if_pos e)]
      refine Or.inl ⟨rfl, fun q h4 h5 => ?_⟩
      by_cases eq : q = i
      · subst eq; exact e
      · exact h3 q h4 (by omega)
    · rw [show cvF B N g i 0 = 1 from (if_pos rfl).trans (if_neg e)]
      exact Or.inr ⟨rfl, i, h1, by omega, by omega⟩
  · rw [show cvF B N g i 1 = 1 from if_neg (by decide)]
    exact Or.inr ⟨rfl, q, a, by omega, d⟩
/-- loads without x, an uncovered stone -/
def Unc (B : gMB) (N : gMN) (x : Int) : Prop := ∀ k, N.2 x ≤ k → k < N.2 x + B.2.2.1 x → who B N (N.1 x + 1) k < 0
theorem unc_ne {B : gMB} {N : gMN} {x g r k : Int} (hD : Dj B N) (x0 : 0 ≤ x) (hU : Unc B N x) (g0 : 0 ≤ g) (g1 : g < 10) (hr : N.1 g = r) (hc : cov B N g k) : who B N (r - 1) k ≠ x := by
  intro e
  rcases who_cases B N (r - 1) k with ⟨e2, a⟩ | ⟨a1, a2, a3⟩
  · omega
  · rw [e] at a3
    have h1 := hU k a3.1.2.1 a3.1.2.2
    rw [a3.2, show r - 1 + 1 = r by omega, who_is hD g0 g1 ⟨hc, hr⟩] at h1
    omega
theorem who_same {B : gMB} {N : gMN} {x g r k : Int} (hD : Dj B N) (x0 : 0 ≤ x) (x1 : x < 10) (hU : Unc B N x) (g0 : 0 ≤ g) (g1 : g < 10) (hr : N.1 g = r) (hc : cov B N g k) : who B (mset N x (-6) (-6)) (r - 1) k = who B N (r - 1) k := by
  rw [who_out hD x0 x1, if_neg (unc_ne hD x0 hU g0 g1 hr hc)]
theorem hld_same {B : gMB} {N : gMN} {x g : Int} (hD : Dj B N) (x0 : 0 ≤ x) (x1 : x < 10) (hU : Unc B N x) (g0 : 0 ≤ g) (g1 : g < 10) (hg : 0 ≤ N.1 g) (e : g ≠ x) : hld B (mset N x (-6) (-6)) g = hld B N g := by
  unfold hld
  rw [mset_n2 e]
  refine itI_congr (fun k a h1 h2 => ?_)
  unfold hldF
  rw [mset_n1 e, who_same hD x0 x1 hU g0 g1 rfl ⟨hg, h1, h2⟩]
/-- the loads of two walls, one without x -/
def Rl (x : Int) (z : Prop) (L' L : gML) : Prop := L x = 0 ∧ (∀ g, 0 ≤ g → g < 10 → g ≠ x → 0 ≤ L' g ∧ L' g ≤ L g) ∧ (z → ∀ g, 0 ≤ g → g < 10 → g ≠ x → L' g = L g)
theorem Rl_set {x b : Int} {z : Prop} {L' L : gML} (h : Rl x z L' L) (hb : b ≠ x) {s' s : Int} (h0 : 0 ≤ s') (h1 : s' ≤ s) (h2 : z → s' = s) : Rl x z (aset L' b (L' b + s')) (aset L b (L b + s)) := by
  obtain ⟨a1, a2, a3⟩ := h
  refine ⟨by rw [aset_n (Ne.symm hb)]; exact a1, fun g g0 g1 e => ?_, fun hz g g0 g1 e => ?_⟩
  · by_cases eg : g = b
    · subst eg; rw [aset_s, aset_s]; have := a2 g g0 g1 e; omega
    · rw [aset_n eg, aset_n eg]; exact a2 g g0 g1 e
  · by_cases eg : g = b
    · subst eg; rw [aset_s, aset_s, a3 hz g g0 g1 e, h2 hz]
    · rw [aset_n eg, aset_n eg]; exact a3 hz g g0 g1 e
theorem ld_step {B : gMB} {N : gMN} {x r g : Int} (hB : BOk B) (hD : Dj B N) (x0 : 0 ≤ x) (x1 : x < 10) (hU : Unc B N x) (hr : 1 ≤ r) (g0 : 0 ≤ g) (g1 : g < 10) {L' L : gML} (hL : 0 ≤ L g) (h : Rl x (N.1 x ≤ 0) L' L) : Rl x (N.1 x ≤ 0) (ldG B (mset N x (-6) (-6)) r g L') (ldG B N r g L) := by
  have hw := (hB.2.2 g g0 g1).2.1
  by_cases e : g = x
  · subst e
    rw [show ldG B (mset N g (-6) (-6)) r g L' = L' from if_neg (by rw [mset_s1]; omega)]
    by_cases e2 : N.1 g = r ∧ 0 < hld B N g
    · rw [show ldG B N r g L = itI (ldC B N r (ldS B N g L)) (N.2 g) (N.2 g + B.2.2.1 g) L from if_pos e2]
      have hs : 0 ≤ ldS B N g L := by
        unfold ldS
        rw [Int.tdiv_eq_ediv_of_nonneg (by omega)]
        exact Int.ediv_nonneg (by omega) (by omega)
      refine itI_ind (P := fun _ M => Rl g (N.1 g ≤ 0) L' M) (by have := (hB.2.2 g g0 g1).1; omega) h (fun k M h1 h2 h3 => ?_)
      unfold ldC
      split
      · have ne : who B N (r - 1) k ≠ g := fun q => by
          rcases who_cases B N (r - 1) k with ⟨e3, _⟩ | ⟨_, _, a3⟩
          · omega
          · rw [q] at a3; have := a3.2; omega
        obtain ⟨a1, a2, a3⟩ := h3
        refine ⟨by rw [aset_n (Ne.symm ne)]; exact a1, fun q q0 q1 eq => ?_, fun hz => by omega⟩
        have := a2 q q0 q1 eq
        by_cases eb : q = who B N (r - 1) k
        · rw [← eb, aset_s]; omega
        · rw [aset_n eb]; exact this
      · exact h3
    · rw [show ldG B N r g L = L from if_neg e2]; exact h
  · by_cases e2 : N.1 g = r ∧ 0 < hld B N g
    · have hh := hld_same hD x0 x1 hU g0 g1 (by omega) e
      rw [show ldG B N r g L = itI (ldC B N r (ldS B N g L)) (N.2 g) (N.2 g + B.2.2.1 g) L from if_pos e2, show ldG B (mset N x (-6) (-6)) r g L' = itI (ldC B (mset N x (-6) (-6)) r (ldS B (mset N x (-6) (-6)) g L')) ((mset N x (-6) (-6)).2 g) ((mset N x (-6) (-6)).2 g + B.2.2.1 g) L' from if_pos (by rw [mset_n1 e, hh]; exact e2), mset_n2 e]
      have hg := h.2.1 g g0 g1 e
      have hs' : 0 ≤ ldS B (mset N x (-6) (-6)) g L' := by
        unfold ldS
        rw [Int.tdiv_eq_ediv_of_nonneg (by omega), hh]
        exact Int.ediv_nonneg (by omega) (by omega)
      have hs : ldS B (mset N x (-6) (-6)) g L' ≤ ldS B N g L := by
        unfold ldS
        rw [Int.tdiv_eq_ediv_of_nonneg (by omega), Int.tdiv_eq_ediv_of_nonneg (by omega), hh]
        exact Int.ediv_le_ediv e2.2 (by omega)
      have hz : N.1 x ≤ 0 → ldS B (mset N x (-6) (-6)) g L' = ldS B N g L := fun z => by
        unfold ldS
        rw [hh, h.2.2 z g g0 g1 e]
      refine itI_rel (P := fun _ M' M => Rl x (N.1 x ≤ 0) M' M) (by have := (hB.2.2 g g0 g1).1; omega) h (fun k M' M h1 h2 h3 => ?_)
      have hc : cov B N g k := ⟨by omega, h1, h2⟩
      unfold ldC
      rw [who_same hD x0 x1 hU g0 g1 e2.1 hc]
      split
      · exact Rl_set h3 (unc_ne hD x0 hU g0 g1 e2.1 hc) hs' hs hz
      · exact h3
    · rw [show ldG B N r g L = L from if_neg e2, show ldG B (mset N x (-6) (-6)) r g L' = L' from if_neg (fun q => e2 (by rw [mset_n1 e] at q; exact ⟨q.1, by rw [← hld_same hD x0 x1 hU g0 g1 (by omega) e]; exact q.2⟩))]
      exact h
theorem ld_out {B : gMB} {N : gMN} {x : Int} (hB : BOk B) (hD : Dj B N) (x0 : 0 ≤ x) (x1 : x < 10) (hU : Unc B N x) : Rl x (N.1 x ≤ 0) (ldA B (mset N x (-6) (-6))) (ldA B N) := by
  refine (itI_rel (f := ldW B (mset N x (-6) (-6))) (g := ldW B N) (P := fun k M' M => LB M (pr N (9 - k) 0) ∧ Rl x (N.1 x ≤ 0) M' M) (lo := 0) (hi := 9) (by omega) ⟨LB_0, rfl, fun g _ _ _ => ⟨Int.le_refl _, Int.le_refl _⟩, fun _ _ _ _ _ => rfl⟩ (fun k M' M h1 h2 h3 => ?_)).2
  rw [show 9 - (k + 1) = 9 - k - 1 by omega, pr_d]
  refine itI_rel (f := ldG B (mset N x (-6) (-6)) (9 - k)) (g := ldG B N (9 - k)) (P := fun i M' M => LB M (pr N (9 - k) i) ∧ Rl x (N.1 x ≤ 0) M' M) (lo := 0) (hi := 10) (by omega) h3 (fun i M' M h4 h5 h6 => ?_)
  exact ⟨ldG_rng hB ⟨h4, h5⟩ h6.1, ld_step hB hD x0 x1 hU (by omega) h4 h5 (h6.1.2 i h4 h5).1 h6.2⟩
/-! what stays true -/
theorem inv_out {B : gMB} {N : gMN} {x : Int} (h : Inv B N) (x0 : 0 ≤ x) (x1 : x < 10) (hU : Unc B N x) : Inv B (mset N x (-6) (-6)) := by
  obtain ⟨hB, hN, hD, hS, hO⟩ := h
  refine ⟨hB, ⟨⟨Z10_set hN.1.1 ⟨x0, x1⟩, Z10_set hN.1.2 ⟨x0, x1⟩⟩, fun g g0 g1 => ?_⟩, fun g k g0 g1 k0 k1 a b e => ?_, fun g g0 g1 a => ?_, fun g g0 g1 a => ?_⟩
  · by_cases e : g = x
    · subst e; exact Or.inl ⟨mset_s1, mset_s2⟩
    · rw [mset_n1 e, mset_n2 e]; exact hN.2 g g0 g1
  · have e1 : g ≠ x := fun q => by subst q; rw [mset_s1] at a; omega
    have e2 : k ≠ x := fun q => by subst q; rw [mset_n1 e1] at a b; rw [mset_s1] at b; omega
    rw [mset_n1 e1] at a b
    rw [mset_n1 e2] at b
    rw [mset_n2 e1, mset_n2 e2]
    exact hD g k g0 g1 k0 k1 a b e
  · have e1 : g ≠ x := fun q => by subst q; rw [mset_s1] at a; omega
    rw [mset_n1 e1] at a
    obtain ⟨k, c, k0, k1, k2, k3⟩ := hS g g0 g1 a
    have e2 : k ≠ x := fun q => by
      have h1 := unc_ne hD x0 hU g0 g1 rfl k3
      rw [who_is hD k0 k1 k2] at h1
      exact h1 q
    exact ⟨k, c, k0, k1, by rw [mset_n1 e1]; exact (at_n e2).mpr k2, (cov_n e1).mpr k3⟩
  · have e1 : g ≠ x := fun q => by subst q; rw [mset_s1] at a; omega
    rw [mset_n1 e1] at a
    have h1 := (ld_out hB hD x0 x1 hU).2.1 g g0 g1 e1
    have h2 := hO g g0 g1 a
    omega
theorem inv_take {B : gMB} {N : gMN} {x : Int} (h : Inv B N) (x0 : 0 ≤ x) (x1 : x < 10) : Inv B (mtake B N x).2 := by
  unfold mtake
  split
  · exact h
  · split
    · rename_i a b
      refine inv_out h x0 x1 ?_
      rcases cvr_is B N x (h.1.2.2 x x0 x1).1.1 with ⟨_, q⟩ | ⟨q, _⟩
      · exact q
      · omega
    · exact h
/-- where a stone comes to lie -/
theorem put_fits {B : gMB} {N : gMN} {g c : Int} (hB : BOk B) (hN : NOk B N) (hD : Dj B N) (hS : Sup B N) (g0 : 0 ≤ g) (g1 : g < 10) (hg : N.1 g < 0) (hs : sb B.2.1 g = true) (hc : 0 ≤ c) (hn : c + B.2.2.1 g ≤ B.1) : 0 ≤ prow B N g c ∧ prow B N g c ≤ 9 ∧ NOk B (mset N g (prow B N g c) c) ∧ Dj B (mset N g (prow B N g c) c) ∧ Sup B (mset N g (prow B N g c) c) ∧ (∀ k, c ≤ k → k < c + B.2.2.1 g → who B N (prow B N g c) k < 0) ∧ (∀ k, c ≤ k → k < c + B.2.2.1 g → hgt B N k ≤ prow B N g c) := by
  have hw := (hB.2.2 g g0 g1).1
  have hw1 := ((hB.2.2 g g0 g1).2.2.2 hs).1
  obtain ⟨p1, p2⟩ := prow_is B N g c hw.1
  have p0 := prow_0 B N g c hw.1
  have p9 : prow B N g c ≤ 9 := by
    rcases p2 with h | ⟨k, -, -, h⟩
    · omega
    · rw [h]; exact hgt_le hS g0 g1 hg
  have hf : ∀ k, c ≤ k → k < c + B.2.2.1 g → who B N (prow B N g c) k < 0 := fun k h1 h2 => by
    have := p1 k h1 h2
    refine Decidable.byContradiction fun e => ?_
    have := (who_lt (B := B) (N := N) (r := prow B N g c) (c := k) (by omega)).2
    omega
  refine ⟨p0, p9, ⟨⟨Z10_set hN.1.1 ⟨g0, g1⟩, Z10_set hN.1.2 ⟨g0, g1⟩⟩, fun h h0 h1 => ?_⟩, ?_, ?_, hf, p1⟩
  · by_cases e : h = g
    · subst e; rw [mset_s1, mset_s2]; exact Or.inr ⟨p0, p9, hc, hn, hs⟩
    · rw [mset_n1 e, mset_n2 e]; exact hN.2 h h0 h1
  · -- no two in one cell
    have key : ∀ h, 0 ≤ h → h < 10 → h ≠ g → N.1 h = prow B N g c → c + B.2.2.1 g ≤ N.2 h ∨ N.2 h + B.2.2.1 h ≤ c := by
      intro h h0 h1 e eh
      refine Decidable.byContradiction fun q => ?_
      by_cases wz : B.2.2.1 h ≤ 0
      · rcases hN.2 h h0 h1 with ⟨a, _⟩ | ⟨_, _, _, _, a⟩
        · omega
        · have := ((hB.2.2 h h0 h1).2.2.2 a).1; omega
      · have hk : ∃ k, c ≤ k ∧ k < c + B.2.2.1 g ∧ N.2 h ≤ k ∧ k < N.2 h + B.2.2.1 h := by
          rcases Int.le_total c (N.2 h) with a | a
          · exact ⟨N.2 h, by omega, by omega, by omega, by omega⟩
          · exact ⟨c, by omega, by omega, by omega, by omega⟩
        obtain ⟨k, k1, k2, k3, k4⟩ := hk
        have := who_is hD h0 h1 (show at_ B N h (prow B N g c) k from ⟨⟨by omega, k3, k4⟩, eh⟩)
        have := hf k k1 k2
        omega
    intro a b a0 a1 b0 b1 h1 h2 e
    by_cases ea : a = g
    · subst ea
      have eb : b ≠ a := fun q => e q.symm
      rw [mset_s1] at h1 h2
      rw [mset_n1 eb] at h2
      rw [mset_s2, mset_n2 eb]
      exact key b b0 b1 eb h2.symm
    · rw [mset_n1 ea] at h1 h2
      rw [mset_n2 ea]
      by_cases eb : b = g
      · subst eb
        rw [mset_s1] at h2
        rw [mset_s2]
        exact (key a a0 a1 ea h2).symm
      · rw [mset_n1 eb] at h2
        rw [mset_n2 eb]
        exact hD a b a0 a1 b0 b1 h1 h2 e
  · intro a a0 a1 h1
    by_cases ea : a = g
    · subst ea
      rw [mset_s1] at h1
      rcases p2 with h | ⟨k, k1, k2, h⟩
      · omega
      · rcases (hgt_is B N k).2 with q | ⟨j, j0, j1, j2, j3⟩
        · omega
        · have ej : j ≠ a := fun q => by subst q; have := j2.1; omega
          exact ⟨j, k, j0, j1, by rw [mset_s1]; exact (at_n ej).mpr ⟨j2, by omega⟩, cov_s.mpr ⟨p0, k1, k2⟩⟩
    · rw [mset_n1 ea] at h1
      obtain ⟨j, k, j0, j1, j2, j3⟩ := hS a a0 a1 h1
      have ej : j ≠ g := fun q => by subst q; have := j2.1.1; omega
      exact ⟨j, k, j0, j1, by rw [mset_n1 ea]; exact (at_n ej).mpr j2, (cov_n ea).mpr j3⟩
theorem inv_put {B : gMB} {N : gMN} {g c : Int} (h : Inv B N) (g0 : 0 ≤ g) (g1 : g < 10) (hc : 0 ≤ c) : Inv B (mput B N g c).2 := by
  unfold mput
  split
  · exact h
  · rename_i a
    split
    · exact h
    · rename_i b
      split
      · exact h
      · split
        · rename_i d e
          have hs : sb B.2.1 g = true := by
            cases q : sb B.2.1 g
            · exact absurd (Or.inl q) a
            · rfl
          have hg : N.1 g < 0 := by
            refine Decidable.byContradiction fun q => a (Or.inr (by omega))
          obtain ⟨q1, q2, q3, q4, q5, -, -⟩ := put_fits h.1 h.2.1 h.2.2.1 h.2.2.2.1 g0 g1 hg hs hc (by omega)
          refine ⟨h.1, q3, q4, q5, ?_⟩
          rcases ovr_is B (mset N g (prow B N g c) c) with ⟨_, z⟩ | ⟨z, _⟩
          · exact z
          · omega
        · exact h
/-- a stone in row 0 makes no load -/
theorem put_row0 {B : gMB} {N : gMN} {g c : Int} (h : Inv B N) (g0 : 0 ≤ g) (g1 : g < 10) (hg : N.1 g < 0) (hs : sb B.2.1 g = true) (hc : 0 ≤ c) (hn : c + B.2.2.1 g ≤ B.1) (hr : prow B N g c = 0) : ovr B (mset N g (prow B N g c) c) = 0 := by
  obtain ⟨q1, q2, q3, q4, q5, q6, q7⟩ := put_fits h.1 h.2.1 h.2.2.1 h.2.2.2.1 g0 g1 hg hs hc hn
  have hU : Unc B (mset N g (prow B N g c) c) g := fun k k1 k2 => by
    rw [mset_s2] at k1 k2
    rw [mset_s1, who_put h.2.2.1 g0 g1 hg q1 q6, if_neg (by omega)]
    refine Decidable.byContradiction fun e => ?_
    have := (who_lt (B := B) (N := N) (r := prow B N g c + 1) (c := k) (by omega)).2
    have := q7 k k1 k2
    omega
  have hL := ld_out h.1 q4 g0 g1 hU
  rw [mset_back (h.2.1.out g0 g1 hg)] at hL
  rcases ovr_is B (mset N g (prow B N g c) c) with ⟨z, _⟩ | ⟨_, q, z0, z1, z2, z3⟩
  · exact z
  · by_cases e : q = g
    · subst e
      rw [hL.1] at z3
      have := (h.1.2.2 q g0 g1).2.2.1.1
      omega
    · rw [mset_n1 e] at z2
      rw [← hL.2.2 (by rw [mset_s1]; omega) q z0 z1 e] at z3
      have := h.2.2.2.2 q z0 z1 z2
      omega
