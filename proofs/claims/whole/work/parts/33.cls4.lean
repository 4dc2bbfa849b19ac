/-! weigh, put, take -/
theorem s_fillL {n v : Int} {f : Int → Int} {Q : (Int → Int) → Prop} (hn : 0 ≤ n ∧ n ≤ 1000) (h : ∀ f' : Int → Int, (∀ j, 0 ≤ j → j < n → f' j = v) → (∀ j, ¬ (0 ≤ j ∧ j < n) → f' j = f j) → Q f') : wp_X6_fill_ n f v Q := by
  unfold wp_X6_fill_
  refine lp_inv (fun m i (f' : Int → Int) => wp_X6_fill__7 n (fun f => Q f) Q m v i f') n (fun i f' => 0 ≤ i ∧ (∀ j, 0 ≤ j → j < i → f' j = v) ∧ (∀ j, ¬ (0 ≤ j ∧ j < n) → f' j = f j)) ?_ ?_ 0 f (by omega) ⟨by omega, fun j _ _ => by omega, fun j _ => rfl⟩
  · rintro m f' ⟨hi, e1, e2⟩
    show wp_X6_fill__7 _ _ _ (m + 1) _ _ _
    unfold wp_X6_fill__7
    exact ⟨⟨by omega, by omega⟩, fun _ => h f' e1 e2, fun q => absurd (Int.le_refl _) q⟩
  · rintro m i f' hlt ⟨hi, e1, e2⟩ ih
    show wp_X6_fill__7 _ _ _ (m + 1) _ _ _
    unfold wp_X6_fill__7
    refine ⟨⟨by omega, by omega⟩, fun q => by omega, fun _ => ⟨⟨hi, hlt⟩, ih _ ⟨by omega, fun j j0 j1 => ?_, fun j j0 => ?_⟩⟩⟩
    · by_cases e : j = i
      · subst e; exact aset_s
      · rw [aset_n e]; exact e1 j j0 (by omega)
    · rw [aset_n (by omega)]; exact e2 j j0
theorem s_fill {n v : Int} {f : Int → Int} {Q : (Int → Int) → Prop} (hn : 0 ≤ n ∧ n ≤ 1000) (h : ∀ f' : Int → Int, (∀ j, 0 ≤ j → j < n → f' j = v) → (∀ j, ¬ (0 ≤ j ∧ j < n) → f' j = f j) → Q f') : wp_X6_fill n f v Q := by
  unfold wp_X6_fill
  refine lp_inv (fun m i (f' : Int → Int) => wp_X6_fill_7 n (fun f => Q f) Q m v i f') n (fun i f' => 0 ≤ i ∧ (∀ j, 0 ≤ j → j < i → f' j = v) ∧ (∀ j, ¬ (0 ≤ j ∧ j < n) → f' j = f j)) ?_ ?_ 0 f (by omega) ⟨by omega, fun j _ _ => by omega, fun j _ => rfl⟩
  · rintro m f' ⟨hi, e1, e2⟩
    show wp_X6_fill_7 _ _ _ (m + 1) _ _ _
    unfold wp_X6_fill_7
    exact ⟨⟨by omega, by omega⟩, fun _ => h f' e1 e2, fun q => absurd (Int.le_refl _) q⟩
  · rintro m i f' hlt ⟨hi, e1, e2⟩ ih
    show wp_X6_fill_7 _ _ _ (m + 1) _ _ _
    unfold wp_X6_fill_7
    refine ⟨⟨by omega, by omega⟩, fun q => by omega, fun _ => ⟨⟨hi, hlt⟩, ih _ ⟨by omega, fun j j0 j1 => ?_, fun j j0 => ?_⟩⟩⟩
    · by_cases e : j = i
      · subst e; exact aset_s
      · rw [aset_n e]; exact e1 j j0 (by omega)
    · rw [aset_n (by omega)]; exact e2 j j0
theorem ldW_id {B : gMB} {N : gMN} {k : Int} {M : gML} (hB : BOk B) (hN : NOk B N) (hk : hst B N ≤ 9 - k) (h0 : 0 ≤ 9 - k) : ldW B N k M = M := by
  refine itI_id (fun g g0 g1 => ?_)
  unfold ldG
  rw [if_neg (fun q => ?_)]
  have := row_hst hB hN g0 g1 (by omega)
  omega
set_option maxHeartbeats 1000000 in
theorem s_weigh {B : gMB} {N : gMN} {S : gWS} {T : gWT} {U : gML} {Q : gWU → Prop} (hB : BOk B) (hN : NOk B N) (hS : SR B S) (hT : TR B N T) (h : ∀ U', UR U' (ldA B N) → Q U') : wp_X5_weigh S T U Q := by
  have ht := hst_10 hB hN
  unfold wp_X5_weigh
  refine s_fillL ⟨by omega, by omega⟩ (fun U0 hU0 _ => s_tallest hB hN hT ?_)
  have hz : UR U0 (fun _ => 0) := fun g g0 g1 => by rw [hU0 g g0 g1]; rfl
  have hdz : Dv N (fun _ => 0) := fun g _ _ _ => ⟨0, by rw [Int.mul_zero]⟩
  by_cases t0 : hst B N = 0
  · have e : ldA B N = fun _ => 0 := itI_id (fun k k0 k1 => ldW_id hB hN (by omega) (by omega))
    rw [e] at h
    refine ⟨1, ?_⟩
    unfold wp_X5_weigh_15
    exact ⟨⟨by omega, by omega⟩, fun _ => h U0 hz, fun q => by omega⟩
  · refine lp_down (fun m r (M : gML) => wp_X5_weigh_15 S T (fun U => Q U) Q m r M) 0 (fun r M => 0 ≤ r ∧ r ≤ 9 ∧ UR M (itI (ldW B N) 0 (9 - r) (fun _ => 0)) ∧ Dv N (itI (ldW B N) 0 (9 - r) (fun _ => 0))) ?_ ?_ (hst B N - 1) U0 (by omega) ?_
    · rintro m M ⟨r0, r9, e1, e2⟩
      show wp_X5_weigh_15 _ _ _ _ (m + 1) _ _
      unfold wp_X5_weigh_15
      exact ⟨by decide, fun _ => h M e1, fun q => absurd (Int.le_refl 0) q⟩
    · rintro m r M hlt ⟨r0, r9, e1, e2⟩ ih
      show wp_X5_weigh_15 _ _ _ _ (m + 1) _ _
      unfold wp_X5_weigh_15
      refine ⟨⟨by omega, by omega⟩, fun q => by omega, fun _ => ?_⟩
      have hb0 := ldW_rng (B := B) (N := N) hB (9 - r) (by omega)
      rw [show 9 - (9 - r) = r by omega] at hb0
      have e9 : itI (ldW B N) 0 (9 - (r - 1)) (fun _ => 0) = itI (ldG B N r) 0 10 (itI (ldW B N) 0 (9 - r) (fun _ => 0)) := by
        rw [show 9 - (r - 1) = (9 - r) + 1 by omega, itI_s (by omega)]
        show itI (ldG B N (9 - (9 - r))) 0 10 _ = _
        rw [show 9 - (9 - r) = r by omega]
      rw [e9] at ih
      generalize itI (ldW B N) 0 (9 - r) (fun _ => 0) = M0 at *
      refine lp_inv (fun m g (M : gML) => wp_X5_weigh_21 S T _ Q m r g M) 10 (fun g M => 0 ≤ g ∧ UR M (itI (ldG B N r) 0 g M0) ∧ Dv N (itI (ldG B N r) 0 g M0)) ?_ ?_ 0 M (by omega) ⟨by omega, by rw [itI_0 (by omega)]; exact ⟨e1, e2⟩⟩
      · rintro m2 M ⟨h3, e3, e4⟩
        show wp_X5_weigh_21 _ _ _ _ (m2 + 1) _ _ _
        unfold wp_X5_weigh_21
        exact ⟨by decide, fun _ => ih _ ⟨by omega, by omega, e3, e4⟩, fun q => absurd (Int.le_refl 10) q⟩
      · rintro m2 g M hg ⟨h3, e3, e4⟩ ih2
        have hb := ldR_rng hB hb0 g h3 (by omega)
        have hp := pr_rng N r g
        show wp_X5_weigh_21 _ _ _ _ (m2 + 1) _ _ _
        unfold wp_X5_weigh_21
        refine ⟨⟨by omega, by omega⟩, fun q => by omega, fun _ => s_isLaid hT h3 hg (fun a => ⟨fun q => absurd q (by decide), fun _ => s_at ⟨h3, hg⟩ (by omega) ?_⟩) (fun a => ⟨fun _ => ih2 _ ⟨by omega, ?_⟩, fun q => absurd rfl q⟩)⟩
        · have r1 := (hT.2.1 g h3 hg a).1
          have r2 := (hN.nr hB) g h3 hg
          rw [r1]
          refine ⟨⟨by omega, by omega⟩, ⟨by omega, by omega⟩, fun b => ih2 _ ⟨by omega, ?_⟩, fun b => ?_⟩
          · rw [itI_s h3, show ldG B N r g (itI (ldG B N r) 0 g M0) = itI (ldG B N r) 0 g M0 from if_neg (fun q => b q.1)]
            exact ⟨e3, e4⟩
          · have b := Decidable.of_not_not b
            refine s_passDown hB hN hS hT e3 e4 hb hp.2 h3 hg b (by omega) (fun U' hU' => ih2 _ ⟨by omega, ?_⟩)
            rw [itI_s h3]
            exact ⟨hU', Dv_G hB hN e3 (by omega) h3 hg (hb.2 g h3 hg).1 e4⟩
        · rw [itI_s h3, show ldG B N r g (itI (ldG B N r) 0 g M0) = itI (ldG B N r) 0 g M0 from if_neg (fun q => by omega)]
          exact ⟨e3, e4⟩
    · have e : itI (ldW B N) 0 (9 - (hst B N - 1)) (fun _ => 0) = fun _ => 0 := itI_id (fun k k0 k1 => ldW_id hB hN (by omega) (by omega))
      rw [e]
      exact ⟨by omega, by omega, hz, hdz⟩
theorem s_isTooHeavyOn {B : gMB} {N : gMN} {S : gWS} {U : gML} {g : Int} {Q : Int → Prop} (hB : BOk B) (hS : SR B S) (hU : UR U (ldA B N)) (g0 : 0 ≤ g) (g1 : g < 10) (h1 : 60466176 * B.2.2.2.2 g < ldA B N g → Q 1) (h0 : ldA B N g ≤ 60466176 * B.2.2.2.2 g → Q 0) : wp_X5_isTooHeavyOn S U g Q := by
  have hb := (hB.2.2 g g0 g1).2.2.1
  have hl := ldA_r (N := N) hB g0 g1
  have hu := hU g g0 g1
  unfold wp_X5_isTooHeavyOn
  refine s_atL ⟨g0, g1⟩ (by omega) (s_at ⟨g0, g1⟩ (by omega) ?_)
  rw [(hS.2.2 g g0 g1).2.2]
  exact ⟨⟨by omega, by omega⟩, ⟨by omega, by omega⟩, ⟨by omega, by omega⟩, fun a => h0 (by omega), fun a => h1 (by omega)⟩
theorem s_isAnyTooHeavy {B : gMB} {N : gMN} {S : gWS} {T : gWT} {U : gML} {Q : Int → Prop} (hB : BOk B) (hS : SR B S) (hT : TR B N T) (hU : UR U (ldA B N)) (h1 : ovr B N = 4 → Q 1) (h0 : ovr B N = 0 → Q 0) : wp_X5_isAnyTooHeavy S T U Q := by
  unfold wp_X5_isAnyTooHeavy
  refine lp_inv (fun m i (_ : Unit) => wp_X5_isAnyTooHeavy_2 S T U (Q 1) (Q 0) Q m i) 10 (fun i _ => 0 ≤ i ∧ ∀ q, 0 ≤ q → q < i → 0 ≤ N.1 q → ldA B N q ≤ 60466176 * B.2.2.2.2 q) ?_ ?_ 0 () (by omega) ⟨by omega, fun q _ _ => by omega⟩
  · rintro m _ ⟨hi, e⟩
    show wp_X5_isAnyTooHeavy_2 _ _ _ _ _ _ (m + 1) _
    unfold wp_X5_isAnyTooHeavy_2
    refine ⟨by decide, fun _ => h0 ?_, fun q => absurd (Int.le_refl 10) q⟩
    rcases ovr_is B N with ⟨z, _⟩ | ⟨_, q, q0, q1, q2, q3⟩
    · exact z
    · have := e q q0 q1 q2; omega
  · rintro m i _ hlt ⟨hi, e⟩ ih
    show wp_X5_isAnyTooHeavy_2 _ _ _ _ _ _ (m + 1) _
    unfold wp_X5_isAnyTooHeavy_2
    refine ⟨⟨by omega, by omega⟩, fun q => by omega, fun _ => s_isLaid hT hi hlt (fun a => ⟨fun q => absurd q (by decide), fun _ => ?_⟩) (fun a => ⟨fun _ => ih () ⟨by omega, fun q q0 q1 q2 => ?_⟩, fun q => absurd rfl q⟩)⟩
    · refine s_isTooHeavyOn hB hS hU hi hlt (fun b => ⟨fun q => absurd q (by decide), fun _ => h1 ?_⟩) (fun b => ⟨fun _ => ih () ⟨by omega, fun q q0 q1 q2 => ?_⟩, fun q => absurd rfl q⟩)
      · rcases ovr_is B N with ⟨_, z⟩ | ⟨z, _⟩
        · have := z i hi hlt a; omega
        · exact z
      · by_cases eq : q = i
        · subst eq; exact b
        · exact e q q0 (by omega) q2
    · by_cases eq : q = i
      · subst eq; omega
      · exact e q q0 (by omega) q2
theorem stn_hc {B : gMB} {N : gMN} {g r c : Int} (hD : Dj B N) (g0 : 0 ≤ g) (g1 : g < 10) (hg : N.1 g < 0) (hr : 0 ≤ r) (hf : ∀ k, c ≤ k → k < c + B.2.2.1 g → who B N r k < 0) : hld B (mset N g r c) g = itI (hcF B N r) c (c + B.2.2.1 g) 0 := by
  rw [hld_hc]
  refine itI_congr (fun k a _ _ => ?_)
  unfold hcF
  rw [who_put hD g0 g1 hg hr hf, if_neg (show ¬ (r - 1 = r ∧ c ≤ k ∧ k < c + B.2.2.1 g) by omega)]
/-- the class's put is the abstract one -/
theorem s_put {B : gMB} {N : gMN} {S : gWS} {T : gWT} {U : gML} {g c : Int} {Q : Int → gWT → gWU → Prop} (hI : Inv B N) (hS : SR B S) (hT : TR B N T) (g0 : 0 ≤ g) (g1 : g < 10) (hc : 0 ≤ c ∧ c ≤ 1000) (h : ∀ T' U', TR B (mput B N g c).2 T' → Q (mput B N g c).1 T' U') : wp_X5_put S T U g c Q := by
  obtain ⟨hB, hN, hD, hSp, hO⟩ := id hI
  have hw := (hB.2.2 g g0 g1).1
  have hn := hB.1
  unfold wp_X5_put
  refine s_isFree hB hS hT g0 g1 (fun a b => ⟨fun _ => s_at ⟨g0, g1⟩ (by omega) ?_, fun q => absurd (by decide) q⟩) (fun a => ⟨fun q => absurd rfl q, fun _ => ?_⟩)
  · rw [(hS.2.2 g g0 g1).1, hS.1]
    have na : ¬ (sb B.2.1 g = false ∨ 0 ≤ N.1 g) := fun q => by
      rcases q with q | q
      · rw [a] at q; exact absurd q (by decide)
      · omega
    refine ⟨⟨by omega, by omega⟩, fun q => by omega, fun _ => ⟨⟨by omega, by omega⟩, ⟨by omega, by omega⟩, fun d => ?_, fun d => ?_⟩⟩
    · obtain ⟨p0, p9, q3, q4, q5, q6, q7⟩ := put_fits hB hN hD hSp g0 g1 b a hc.1 d
      have e0 : mput B N g c = if ¬ stn B (mset N g (prow B N g c) c) g then (3, N) else if ovr B (mset N g (prow B N g c) c) = 0 then (0, mset N g (prow B N g c) c) else (4, N) := (if_neg na).trans (if_neg (by omega))
      rw [e0] at h
      refine s_rowOnTop (hN.nr hB) hT hc.1 rfl hw.1 (by omega) ?_
      have hh := stn_hc hD g0 g1 b p0 q6
      have hr := hld_r (B := B) (N := mset N g (prow B N g c) c) (g := g) hw.1
      refine s_heldCells hT ⟨p0, by omega⟩ hc.1 hw.1 (by omega) ?_
      rw [← hh]
      refine ⟨⟨by omega, by omega⟩, ⟨by omega, by omega⟩, fun st => ?_, fun st => ?_⟩
      · rw [if_neg (fun z => z st)] at h
        refine s_lay hS hT hD g0 g1 b hw.1 ⟨p0, p9⟩ hc.1 (by omega) q6 q7 (fun T' hT' => ⟨⟨by omega, by omega⟩, fun nz => ?_, fun z => ?_⟩)
        · refine s_weigh hB q3 hS hT' (fun U' hU' => s_isAnyTooHeavy hB hS hT' hU' (fun o => ⟨fun q => absurd q (by decide), fun _ => ?_⟩) (fun o => ⟨fun _ => ?_, fun q => absurd rfl q⟩))
          · rw [if_neg (by omega)] at h
            refine s_lift hB hS hT' q3 q4 g0 g1 (by rw [mset_s1]; exact p0) (fun T2 hT2 => ?_)
            rw [mset_back (hN.out g0 g1 b)] at hT2
            exact h T2 U' hT2
          · rw [if_pos o] at h
            exact h T' U' hT'
        · have z := Decidable.of_not_not z
          rw [if_pos (put_row0 hI g0 g1 b a hc.1 d z)] at h
          exact h T' U hT'
      · rw [if_pos st] at h
        exact h T U hT
    · have e0 : mput B N g c = (2, N) := (if_neg na).trans (if_pos (by omega))
      rw [e0] at h
      exact h T U hT
  · have e0 : mput B N g c = (1, N) := if_pos a
    rw [e0] at h
    exact h T U hT
theorem s_isCovered {B : gMB} {N : gMN} {S : gWS} {T : gWT} {g : Int} {Q : Int → Prop} (hB : BOk B) (hN : NOk B N) (hS : SR B S) (hT : TR B N T) (g0 : 0 ≤ g) (g1 : g < 10) (hg : 0 ≤ N.1 g) (h1 : cvr B N g = 1 → Q 1) (h0 : cvr B N g = 0 → Q 0) : wp_X5_isCovered S T g Q := by
  have hw := (hB.2.2 g g0 g1).1
  have hn := hB.1
  obtain ⟨b1, b2, b3⟩ : N.1 g ≤ 9 ∧ 0 ≤ N.2 g ∧ N.2 g + B.2.2.1 g ≤ B.1 := by
    rcases hN.2 g g0 g1 with q | ⟨_, b, d, e, _⟩
    · omega
    · exact ⟨b, d, e⟩
  unfold wp_X5_isCovered
  refine s_at ⟨g0, g1⟩ (by omega) ?_
  rw [(hS.2.2 g g0 g1).1]
  refine lp_inv (fun m i (_ : Unit) => wp_X5_isCovered_11 T (Q 1) (Q 0) Q m g (B.2.2.1 g) i) (B.2.2.1 g) (fun i _ => 0 ≤ i ∧ ∀ k, N.2 g ≤ k → k < N.2 g + i → who B N (N.1 g + 1) k < 0) ?_ ?_ 0 () hw.1 ⟨by omega, fun k _ _ => by omega⟩
  · rintro m _ ⟨hi, e⟩
    show wp_X5_isCovered_11 _ _ _ _ (m + 1) _ _ _
    unfold wp_X5_isCovered_11
    refine ⟨⟨by omega, by omega⟩, ⟨by omega, by omega⟩, fun _ => h0 ?_, fun q => absurd (Int.le_refl _) q⟩
    rcases cvr_is B N g hw.1 with ⟨z, _⟩ | ⟨_, k, k0, k1, k2⟩
    · exact z
    · have := e k k0 k1; omega
  · rintro m i _ hlt ⟨hi, e⟩ ih
    show wp_X5_isCovered_11 _ _ _ _ (m + 1) _ _ _
    unfold wp_X5_isCovered_11 wp_X5_cellAt
    refine ⟨⟨by omega, by omega⟩, ⟨by omega, by omega⟩, fun q => by omega, fun _ => s_at ⟨g0, g1⟩ (by omega) (s_at ⟨g0, g1⟩ (by omega) ?_)⟩
    rw [(hT.2.1 g g0 g1 hg).1, (hT.2.1 g g0 g1 hg).2]
    have next : who B N (N.1 g + 1) (N.2 g + i) < 0 → ∀ k, N.2 g ≤ k → k < N.2 g + (i + 1) → who B N (N.1 g + 1) k < 0 := fun z k k0 k1 => by
      by_cases ek : k = N.2 g + i
      · subst ek; exact z
      · exact e k k0 (by omega)
    by_cases r9 : N.1 g = 9
    · refine s_at_out ⟨by omega, by omega⟩ (by omega) ⟨by decide, fun _ => ih () ⟨by omega, next ?_⟩, fun q => absurd rfl q⟩
      refine Decidable.byContradiction fun z => ?_
      rcases who_cases B N (N.1 g + 1) (N.2 g + i) with q | ⟨q0, q1, q2⟩
      · omega
      · have := q2.2
        rcases hN.2 _ q0 q1 with y | y <;> omega
    · refine s_at ⟨by omega, by omega⟩ (by omega) ?_
      rw [hT.2.2.1 (N.1 g + 1) (N.2 g + i) (by omega) (by omega) (by omega) (by omega)]
      have hcv := @cv_r B N (N.1 g + 1) (N.2 g + i)
      refine ⟨⟨by omega, by omega⟩, fun z => ih () ⟨by omega, next (cv_z.mp z)⟩, fun z => h1 ?_⟩
      rcases cvr_is B N g hw.1 with ⟨_, y⟩ | ⟨y, _⟩
      · exact absurd (cv_z.mpr (y (N.2 g + i) (by omega) (by omega))) z
      · exact y
theorem s_take {B : gMB} {N : gMN} {S : gWS} {T : gWT} {g : Int} {Q : Int → gWT → Prop} (hI : Inv B N) (hS : SR B S) (hT : TR B N T) (g0 : 0 ≤ g) (g1 : g < 10) (h : ∀ T', TR B (mtake B N g).2 T' → Q (mtake B N g).1 T') : wp_X5_take S T g Q := by
  obtain ⟨hB, hN, hD, hSp, hO⟩ := id hI
  unfold wp_X5_take
  refine s_isLaid hT g0 g1 (fun a => ⟨fun _ => ?_, fun q => absurd (by decide) q⟩) (fun a => ⟨fun q => absurd rfl q, fun _ => ?_⟩)
  · refine s_isCovered hB hN hS hT g0 g1 a (fun b => ⟨fun q => absurd q (by decide), fun _ => ?_⟩) (fun b => ⟨fun _ => ?_, fun q => absurd rfl q⟩)
    · rw [show mtake B N g = (5, N) from (if_neg (by omega)).trans (if_neg (by omega))] at h
      exact h T hT
    · rw [show mtake B N g = (0, mset N g (-6) (-6)) from (if_neg (by omega)).trans (if_pos b)] at h
      exact s_lift hB hS hT hN hD g0 g1 a h
  · rw [show mtake B N g = (1, N) from if_pos a] at h
    exact h T hT
