/-! lay, lift -/
theorem s_lay {B : gMB} {N : gMN} {S : gWS} {T : gWT} {g r c : Int} {Q : gWT → Prop} (hS : SR B S) (hT : TR B N T) (hD : Dj B N) (g0 : 0 ≤ g) (g1 : g < 10) (hg : N.1 g < 0) (hw : 0 ≤ B.2.2.1 g) (hr : 0 ≤ r ∧ r ≤ 9) (hc : 0 ≤ c) (hn : c + B.2.2.1 g ≤ 9) (hf : ∀ k, c ≤ k → k < c + B.2.2.1 g → who B N r k < 0) (hh : ∀ k, c ≤ k → k < c + B.2.2.1 g → hgt B N k ≤ r) (h : ∀ T', TR B (mset N g r c) T' → Q T') : wp_X5_lay S T g r c Q := by
  unfold wp_X5_lay
  refine s_set ⟨g0, g1⟩ (by omega) (s_set ⟨g0, g1⟩ (by omega) (s_at ⟨g0, g1⟩ (by omega) ?_))
  rw [(hS.2.2 g g0 g1).1]
  refine lp_inv (fun m i (T' : gWT) => wp_X5_lay_43 (fun T => Q T) Q m g r c (B.2.2.1 g) i T') (B.2.2.1 g) (fun i T' => 0 ≤ i ∧ T'.1 = ior T.1 (ishl 1 g) ∧ T'.2.1 = aset T.2.1 g r ∧ T'.2.2.1 = aset T.2.2.1 g c ∧ (∀ j, T'.2.2.2.1 j = if r * 9 + c ≤ j ∧ j < r * 9 + c + i then g + 1 else T.2.2.2.1 j) ∧ (∀ j, T'.2.2.2.2 j = if c ≤ j ∧ j < c + i then r + 1 else T.2.2.2.2 j)) ?_ ?_ 0 _ (by omega) ⟨by omega, rfl, rfl, rfl, fun j => (if_neg (by omega)).symm, fun j => (if_neg (by omega)).symm⟩
  · rintro m T' ⟨hi, e1, e2, e3, e4, e5⟩
    show wp_X5_lay_43 _ _ (m + 1) _ _ _ _ _ _
    unfold wp_X5_lay_43
    refine ⟨⟨by omega, by omega⟩, ⟨by omega, by omega⟩, fun _ => h T' ⟨⟨?_, fun k k0 k1 => ?_⟩, fun k k0 k1 a => ?_, fun q k q0 q1 k0 k1 => ?_, fun k k0 k1 => ?_⟩, fun q => absurd (Int.le_refl _) q⟩
    · rw [e1]; exact S10_or hT.1.1 (S10_shl ⟨g0, g1⟩)
    · rw [e1, sb_or hT.1.1 (S10_shl ⟨g0, g1⟩), sb_shl ⟨g0, g1⟩ k0, hT.1.2 k k0 k1]
      by_cases e : k = g
      · subst e
        rw [mset_s1, decide_eq_true (rfl : k = k), Bool.or_true, decide_eq_true hr.1]
      · rw [mset_n1 e, decide_eq_false (fun q : g = k => e q.symm), Bool.or_false]
    · rw [e2, e3]
      by_cases e : k = g
      · subst e; rw [mset_s1, mset_s2, aset_s, aset_s]; exact ⟨rfl, rfl⟩
      · rw [mset_n1 e] at a
        rw [mset_n1 e, mset_n2 e, aset_n e, aset_n e]; exact hT.2.1 k k0 k1 a
    · rw [e4]
      unfold cv
      rw [who_put hD g0 g1 hg hr.1 hf]
      by_cases e : q = r ∧ c ≤ k ∧ k < c + B.2.2.1 g
      · rw [if_pos e, if_pos (by omega), if_pos g0]
      · rw [if_neg e, if_neg (by omega)]
        exact hT.2.2.1 q k q0 q1 k0 k1
    · rw [e5, hgt_put g0 g1 hg hr.1 hh]
      by_cases e : c ≤ k ∧ k < c + B.2.2.1 g
      · rw [if_pos e, if_pos e]
      · rw [if_neg e, if_neg e]; exact hT.2.2.2 k k0 k1
  · rintro m i T' hlt ⟨hi, e1, e2, e3, e4, e5⟩ ih
    show wp_X5_lay_43 _ _ (m + 1) _ _ _ _ _ _
    unfold wp_X5_lay_43 wp_X5_cellAt
    refine ⟨⟨by omega, by omega⟩, ⟨by omega, by omega⟩, fun q => by omega, fun _ => ?_⟩
    refine s_set ⟨by omega, by omega⟩ (by omega) (s_set ⟨by omega, by omega⟩ (by omega) ?_)
    refine ih _ ⟨by omega, e1, e2, e3, fun j => ?_, fun j => ?_⟩ <;> dsimp only
    · by_cases e : j = r * 9 + (c + i)
      · subst e; rw [aset_s, if_pos (by omega)]
      · rw [aset_n e, e4]
        by_cases e6 : r * 9 + c ≤ j ∧ j < r * 9 + c + i
        · rw [if_pos e6, if_pos (by omega)]
        · rw [if_neg e6, if_neg (by omega)]
    · by_cases e : j = c + i
      · subst e; rw [aset_s, if_pos (by omega)]
      · rw [aset_n e, e5]
        by_cases e6 : c ≤ j ∧ j < c + i
        · rw [if_pos e6, if_pos (by omega)]
        · rw [if_neg e6, if_neg (by omega)]
theorem s_heightBelow {T : gWT} {lim k : Int} {Q : Int → Prop} (h0 : 0 ≤ lim) (h1 : lim ≤ 10) (k0 : 0 ≤ k) (k1 : k < 9) (hv : ∀ r, 0 ≤ r → r < 10 → rI (T.2.2.2.1 (r * 9 + k))) (h : ∀ x, 0 ≤ x → x ≤ lim → (x = 0 ∨ ¬ T.2.2.2.1 ((x - 1) * 9 + k) = 0) → (∀ r, x ≤ r → r < lim → T.2.2.2.1 (r * 9 + k) = 0) → Q x) : wp_X5_heightBelow T lim k Q := by
  unfold wp_X5_heightBelow
  refine lp_down (fun m i (_ : Unit) => wp_X5_heightBelow_2 T (fun x3 => Q x3) (Q 0) Q m k i) 0 (fun i _ => 0 ≤ i ∧ i ≤ lim ∧ ∀ r, i ≤ r → r < lim → T.2.2.2.1 (r * 9 + k) = 0) ?_ ?_ lim () h0 ⟨h0, Int.le_refl _, fun r _ _ => by omega⟩
  · rintro m _ ⟨a, b, d⟩
    show wp_X5_heightBelow_2 _ _ _ _ (m + 1) _ _
    unfold wp_X5_heightBelow_2
    exact ⟨by decide, fun _ => h 0 (by omega) b (Or.inl rfl) d, fun q => absurd (Int.le_refl 0) q⟩
  · rintro m i _ hlt ⟨a, b, d⟩ ih
    show wp_X5_heightBelow_2 _ _ _ _ (m + 1) _ _
    unfold wp_X5_heightBelow_2 wp_X5_cellAt
    refine ⟨⟨by omega, by omega⟩, fun q => by omega, fun _ => s_at ⟨by omega, by omega⟩ (by omega) ⟨hv (i - 1) (by omega) (by omega), fun z => ?_, fun z => ?_⟩⟩
    · refine ih () ⟨by omega, by omega, fun r r0 r1 => ?_⟩
      by_cases e : r = i - 1
      · subst e; exact z
      · exact d r (by omega) r1
    · exact h i (by omega) b (Or.inr z) d
theorem hgt_scan {B : gMB} {N : gMN} {x k lim : Int} (h0 : 0 ≤ x) (h1 : x = 0 ∨ 0 ≤ who B N (x - 1) k) (h2 : ∀ r, x ≤ r → r < lim → who B N r k < 0) (h3 : ∀ j, 0 ≤ j → j < 10 → cov B N j k → N.1 j < lim) : hgt B N k = x := by
  refine hgt_eq (fun j j0 j1 a => ?_) ?_ h0
  · refine Decidable.byContradiction fun e => ?_
    have b := h2 (N.1 j) (by omega) (h3 j j0 j1 a)
    rcases who_cases B N (N.1 j) k with q | q
    · exact q.2 j j0 j1 ⟨a, rfl⟩
    · omega
  · rcases h1 with h1 | h1
    · exact Or.inl h1
    · rcases who_cases B N (x - 1) k with q | ⟨q0, q1, q2⟩
      · omega
      · exact Or.inr ⟨_, q0, q1, q2.1, by have := q2.2; omega⟩
theorem s_lift {B : gMB} {N : gMN} {S : gWS} {T : gWT} {g : Int} {Q : gWT → Prop} (hB : BOk B) (hS : SR B S) (hT : TR B N T) (hN : NOk B N) (hD : Dj B N) (g0 : 0 ≤ g) (g1 : g < 10) (hg : 0 ≤ N.1 g) (h : ∀ T', TR B (mset N g (-6) (-6)) T' → Q T') : wp_X5_lift S T g Q := by
  have hw := (hB.2.2 g g0 g1).1
  have hn := hB.1
  have hR := hN.nr hB
  obtain ⟨b1, b2, b3, b4⟩ : N.1 g ≤ 9 ∧ 0 ≤ N.2 g ∧ N.2 g + B.2.2.1 g ≤ B.1 ∧ sb B.2.1 g = true := by
    rcases hN.2 g g0 g1 with q | q
    · omega
    · exact q.2
  have hw1 := ((hB.2.2 g g0 g1).2.2.2 b4).1
  unfold wp_X5_lift
  refine s_isLaid hT g0 g1 (fun _ => ⟨fun _ => ?_, fun q => absurd (by decide) q⟩) (fun q => by omega)
  refine s_at ⟨g0, g1⟩ (by omega) (s_at ⟨g0, g1⟩ (by omega) (s_at ⟨g0, g1⟩ (by omega) ?_))
  rw [(hS.2.2 g g0 g1).1, (hT.2.1 g g0 g1 hg).1, (hT.2.1 g g0 g1 hg).2]
  have who_k : ∀ q k, 0 ≤ q → N.2 g ≤ k → k < N.2 g + B.2.2.1 g → cv B (mset N g (-6) (-6)) q k = if q = N.1 g then 0 else cv B N q k := by
    intro q k q0 k0 k1
    unfold cv
    rw [who_out hD g0 g1]
    by_cases e : q = N.1 g
    · subst e
      rw [if_pos rfl, who_is hD g0 g1 ⟨⟨hg, k0, k1⟩, rfl⟩, if_pos rfl]; rfl
    · rw [if_neg e, if_neg (c := who B N q k = g) (fun e2 => ?_)]
      rcases who_cases B N q k with z | ⟨z0, z1, z2⟩
      · omega
      · rw [e2] at z2; exact e z2.2.symm
  have who_o : ∀ q k, 0 ≤ q → ¬ (N.2 g ≤ k ∧ k < N.2 g + B.2.2.1 g) → who B (mset N g (-6) (-6)) q k = who B N q k := by
    intro q k q0 ek
    rw [who_out hD g0 g1, if_neg (fun e2 => ?_)]
    rcases who_cases B N q k with z | ⟨z0, z1, z2⟩
    · omega
    · rw [e2] at z2; exact ek z2.1.2
  have hgt_o : ∀ k, ¬ (N.2 g ≤ k ∧ k < N.2 g + B.2.2.1 g) → hgt B (mset N g (-6) (-6)) k = hgt B N k := by
    intro k ek
    refine hgt_eq (fun j j0 j1 a => ?_) ?_ (hgt_0 B N k)
    · have e : j ≠ g := fun e => by subst e; have := (cov_s.mp a).1; omega
      rw [mset_n1 e]; exact (hgt_is B N k).1 j j0 j1 ((cov_n e).mp a)
    · rcases (hgt_is B N k).2 with z | ⟨j, j0, j1, j2, j3⟩
      · exact Or.inl z
      · have e : j ≠ g := fun e => by subst e; exact ek j2.2
        exact Or.inr ⟨j, j0, j1, (cov_n e).mpr j2, by rw [mset_n1 e]; exact j3⟩
  have cov_lt : ∀ k j, 0 ≤ j → j < 10 → cov B (mset N g (-6) (-6)) j k → (mset N g (-6) (-6)).1 j < hgt B N k := by
    intro k j j0 j1 a
    have e : j ≠ g := fun e => by subst e; have := (cov_s.mp a).1; omega
    rw [mset_n1 e]
    have := (hgt_is B N k).1 j j0 j1 ((cov_n e).mp a)
    omega
  refine lp_inv (fun m i (T' : gWT) => wp_X5_lift_54 (fun T => Q T) Q m (N.1 g) (N.2 g) (B.2.2.1 g) i T') (B.2.2.1 g) (fun i T' => 0 ≤ i ∧ T'.1 = iand T.1 (ixor (ishl 1 g) (-1)) ∧ T'.2.1 = T.2.1 ∧ T'.2.2.1 = T.2.2.1 ∧ (∀ j, T'.2.2.2.1 j = if N.1 g * 9 + N.2 g ≤ j ∧ j < N.1 g * 9 + N.2 g + i then 0 else T.2.2.2.1 j) ∧ (∀ j, T'.2.2.2.2 j = if N.2 g ≤ j ∧ j < N.2 g + i then hgt B (mset N g (-6) (-6)) j else T.2.2.2.2 j)) ?_ ?_ 0 _ (by omega) ⟨by omega, rfl, rfl, rfl, fun j => (if_neg (by omega)).symm, fun j => (if_neg (by omega)).symm⟩
  · rintro m T' ⟨hi, e1, e2, e3, e4, e5⟩
    show wp_X5_lift_54 _ _ (m + 1) _ _ _ _ _
    unfold wp_X5_lift_54
    refine ⟨⟨by omega, by omega⟩, ⟨by omega, by omega⟩, fun _ => h T' ⟨⟨?_, fun k k0 k1 => ?_⟩, fun k k0 k1 a => ?_, fun q k q0 q1 k0 k1 => ?_, fun k k0 k1 => ?_⟩, fun q => absurd (Int.le_refl _) q⟩
    · rw [e1]; exact S10_andn hT.1.1 (S10_shl ⟨g0, g1⟩)
    · rw [e1, sb_andn hT.1.1 (S10_shl ⟨g0, g1⟩), sb_shl ⟨g0, g1⟩ k0, hT.1.2 k k0 k1]
      by_cases e : k = g
      · subst e
        rw [mset_s1, decide_eq_true (rfl : k = k), Bool.not_true, Bool.and_false, decide_eq_false (by omega)]
      · rw [mset_n1 e, decide_eq_false (fun q : g = k => e q.symm), Bool.not_false, Bool.and_true]
    · have e : k ≠ g := fun e => by subst e; rw [mset_s1] at a; omega
      rw [mset_n1 e] at a
      rw [e2, e3, mset_n1 e, mset_n2 e]; exact hT.2.1 k k0 k1 a
    · rw [e4]
      by_cases e : N.2 g ≤ k ∧ k < N.2 g + B.2.2.1 g
      · rw [who_k q k q0 e.1 e.2]
        by_cases e6 : q = N.1 g
        · rw [if_pos e6, if_pos (by omega)]
        · rw [if_neg e6, if_neg (by omega)]; exact hT.2.2.1 q k q0 q1 k0 k1
      · rw [if_neg (by omega), hT.2.2.1 q k q0 q1 k0 k1]
        unfold cv
        rw [who_o q k q0 e]
    · rw [e5]
      by_cases e : N.2 g ≤ k ∧ k < N.2 g + B.2.2.1 g
      · rw [if_pos e]
      · rw [if_neg e, hgt_o k e]; exact hT.2.2.2 k k0 k1
  · rintro m i T' hlt ⟨hi, e1, e2, e3, e4, e5⟩ ih
    show wp_X5_lift_54 _ _ (m + 1) _ _ _ _ _
    unfold wp_X5_lift_54 wp_X5_cellAt
    refine ⟨⟨by omega, by omega⟩, ⟨by omega, by omega⟩, fun q => by omega, fun _ => ?_⟩
    refine s_set ⟨by omega, by omega⟩ (by omega) (s_at ⟨by omega, by omega⟩ (by omega) ?_)
    have cell : ∀ q, 0 ≤ q → q < 10 → aset T'.2.2.2.1 (N.1 g * 9 + (N.2 g + i)) 0 (q * 9 + (N.2 g + i)) = cv B (mset N g (-6) (-6)) q (N.2 g + i) := by
      intro q q0 q1
      rw [who_k q (N.2 g + i) q0 (by omega) (by omega)]
      by_cases e : q = N.1 g
      · subst e; rw [aset_s, if_pos rfl]
      · rw [if_neg e, aset_n (by omega), e4, if_neg (by omega)]; exact hT.2.2.1 q _ q0 q1 (by omega) (by omega)
    have tp : T'.2.2.2.2 (N.2 g + i) = hgt B N (N.2 g + i) := by
      rw [e5, if_neg (by omega)]; exact hT.2.2.2 _ (by omega) (by omega)
    have hg9 : hgt B N (N.2 g + i) ≤ 10 := by
      rcases (hgt_is B N (N.2 g + i)).2 with z | ⟨j, j0, j1, j2, j3⟩
      · omega
      · rcases hN.2 j j0 j1 with q | q
        · have := j2.1; omega
        · omega
    rw [tp]
    refine s_heightBelow (hgt_0 _ _ _) hg9 (by omega) (by omega) (fun q q0 q1 => ?_) (fun x x0 x1 x2 x3 => ?_)
    · dsimp only
      rw [cell q q0 q1]
      have := @cv_r B (mset N g (-6) (-6)) q (N.2 g + i)
      exact ⟨by omega, by omega⟩
    · have ex : hgt B (mset N g (-6) (-6)) (N.2 g + i) = x := by
        refine hgt_scan (lim := hgt B N (N.2 g + i)) x0 ?_ (fun q q0 q1 => ?_) (cov_lt _)
        · rcases x2 with x2 | x2
          · exact Or.inl x2
          · refine (Decidable.em (x = 0)).imp id (fun z => ?_)
            dsimp only at x2
            rw [cell (x - 1) (by omega) (by omega), cv_z] at x2
            omega
        · have := x3 q q0 q1
          dsimp only at this
          rw [cell q (by omega) (by omega), cv_z] at this
          exact this
      refine s_set ⟨by omega, by omega⟩ (by omega) ?_
      refine ih _ ⟨by omega, e1, e2, e3, fun j => ?_, fun j => ?_⟩ <;> dsimp only
      · by_cases e : j = N.1 g * 9 + (N.2 g + i)
        · subst e; rw [aset_s, if_pos (by omega)]
        · rw [aset_n e, e4]
          by_cases e6 : N.1 g * 9 + N.2 g ≤ j ∧ j < N.1 g * 9 + N.2 g + i
          · rw [if_pos e6, if_pos (by omega)]
          · rw [if_neg e6, if_neg (by omega)]
      · by_cases e : j = N.2 g + i
        · subst e; rw [aset_s, if_pos (by omega), ex]
        · rw [aset_n e, e5]
          by_cases e6 : N.2 g ≤ j ∧ j < N.2 g + i
          · rw [if_pos e6, if_pos (by omega)]
          · rw [if_neg e6, if_neg (by omega)]
