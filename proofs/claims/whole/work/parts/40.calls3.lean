/-! touch -/
abbrev tch (B : gMB) (N : gMN) (g q : Int) : Prop := (0 ≤ N.1 g ∧ 0 ≤ N.1 q) ∧ ((N.1 g = N.1 q ∧ (N.2 g + B.2.2.1 g = N.2 q ∨ N.2 q + B.2.2.1 q = N.2 g)) ∨ ((N.2 g < N.2 q + B.2.2.1 q ∧ N.2 q < N.2 g + B.2.2.1 g) ∧ (N.1 g - N.1 q = 1 ∨ N.1 q - N.1 g = 1)))
theorem s_areSideBySide {B : gMB} {N : gMN} {S : gWS} {T : gWT} {g q : Int} {Q : Int → Prop} (hB : BOk B) (hN : NOk B N) (hS : SR B S) (hT : TR B N T) (g0 : 0 ≤ g) (g1 : g < 10) (q0 : 0 ≤ q) (q1 : q < 10) (h1 : tch B N g q → Q 1) (h0 : ¬ tch B N g q → Q 0) : wp_X5_areSideBySide S T g q Q := by
  have rg := hN.nr hB g g0 g1
  have rq := hN.nr hB q q0 q1
  have wg := (hB.2.2 g g0 g1).2.2.2
  have wq := (hB.2.2 q q0 q1).2.2.2
  unfold wp_X5_areSideBySide
  refine s_isLaid hT g0 g1 (fun a => ⟨fun z => absurd z (by decide), fun _ => s_isLaid hT q0 q1 (fun b => ⟨fun _ => ?_, fun z => absurd (by decide) z⟩) (fun b => ⟨fun z => absurd rfl z, fun _ => h0 (fun z => by have := z.1.2; omega)⟩)⟩) (fun a => ⟨fun _ => h0 (fun z => by have := z.1.1; omega), fun z => absurd rfl z⟩)
  refine s_at ⟨g0, g1⟩ (by omega) (s_at ⟨g0, g1⟩ (by omega) (s_at ⟨q0, q1⟩ (by omega) (s_at ⟨q0, q1⟩ (by omega) (s_at ⟨g0, g1⟩ (by omega) (s_at ⟨q0, q1⟩ (by omega) ?_)))))
  rw [(hT.2.1 g g0 g1 a).1, (hT.2.1 g g0 g1 a).2, (hT.2.1 q q0 q1 b).1, (hT.2.1 q q0 q1 b).2, (hS.2.2 g g0 g1).1, (hS.2.2 q q0 q1).1]
  obtain ⟨c1, c2⟩ : (0 ≤ N.2 g ∧ 1 ≤ B.2.2.1 g) ∧ (0 ≤ N.2 q ∧ 1 ≤ B.2.2.1 q) := by
    constructor
    · rcases hN.2 g g0 g1 with z | ⟨_, _, y, _, z⟩
      · omega
      · exact ⟨y, (wg z).1⟩
    · rcases hN.2 q q0 q1 with z | ⟨_, _, y, _, z⟩
      · omega
      · exact ⟨y, (wq z).1⟩
  have eA : (iabs (N.1 g - N.1 q) = 0 ↔ N.1 g = N.1 q) ∧ (iabs (N.1 g - N.1 q) = 1 ↔ (N.1 g - N.1 q = 1 ∨ N.1 q - N.1 g = 1)) ∧ (0 ≤ iabs (N.1 g - N.1 q) ∧ iabs (N.1 g - N.1 q) ≤ 20) := by
    unfold iabs
    split
    · exact ⟨⟨fun _ => by omega, fun _ => by omega⟩, ⟨fun _ => by omega, fun _ => by omega⟩, by omega, by omega⟩
    · exact ⟨⟨fun _ => by omega, fun _ => by omega⟩, ⟨fun _ => by omega, fun _ => by omega⟩, by omega, by omega⟩
  obtain ⟨e0, e1, e2, e3⟩ := eA
  refine ⟨⟨by omega, by omega⟩, ⟨by omega, by omega⟩, fun z => ⟨fun y => h0 (fun x => ?_), fun y => ⟨⟨by omega, by omega⟩, ⟨by omega, by omega⟩, fun w => h0 (fun x => ?_), fun w => ⟨⟨by omega, by omega⟩, ⟨by omega, by omega⟩, fun v => h0 (fun x => ?_), fun v => h1 ⟨⟨a, b⟩, Or.inr ⟨⟨by omega, by omega⟩, e1.mp (Decidable.of_not_not y)⟩⟩⟩⟩⟩, fun z => ⟨⟨by omega, by omega⟩, ⟨by omega, by omega⟩, fun y => h1 ⟨⟨a, b⟩, Or.inl ⟨e0.mp (Decidable.of_not_not z), Or.inl y⟩⟩, fun y => ⟨⟨by omega, by omega⟩, ⟨by omega, by omega⟩, fun w => h0 (fun x => ?_), fun w => h1 ⟨⟨a, b⟩, Or.inl ⟨e0.mp (Decidable.of_not_not z), Or.inr (Decidable.of_not_not w)⟩⟩⟩⟩⟩
  · rcases x.2 with ⟨x1, _⟩ | ⟨_, x1⟩
    · exact z (e0.mpr x1)
    · exact y (e1.mpr x1)
  · rcases x.2 with ⟨x1, _⟩ | ⟨x1, _⟩
    · exact z (e0.mpr x1)
    · omega
  · rcases x.2 with ⟨x1, _⟩ | ⟨x1, _⟩
    · exact z (e0.mpr x1)
    · omega
  · have z := e0.mp (Decidable.of_not_not z)
    rcases x.2 with ⟨_, x1⟩ | ⟨_, x1⟩
    · omega
    · omega
theorem s_X7_doTouch {B : gMB} {N : gMN} {g q : Int} {Q : Int → Prop} (hR : NR B N) (g0 : 0 ≤ g) (g1 : g < 10) (q0 : 0 ≤ q) (q1 : q < 10) (h1 : tch B N g q → Q 1) (h0 : ¬ tch B N g q → Q 0) : wp_X7_doTouch B N g q Q := by
  obtain ⟨r1, r2, r3⟩ := hR g g0 g1
  obtain ⟨r4, r5, r6⟩ := hR q q0 q1
  unfold wp_X7_doTouch
  refine s_X7_isIn hR ⟨g0, g1⟩ (fun a => ⟨fun z => absurd z (by decide), fun _ => s_X7_isIn hR ⟨q0, q1⟩ (fun b => ⟨fun _ => ⟨⟨g0, g1⟩, ⟨q0, q1⟩, ⟨by omega, by omega⟩, ⟨by omega, by omega⟩, ?_⟩, fun z => absurd (by decide) z⟩) (fun b => ⟨fun z => absurd rfl z, fun _ => h0 (fun z => by have := z.1.2; omega)⟩)⟩) (fun a => ⟨fun _ => h0 (fun z => by have := z.1.1; omega), fun z => absurd rfl z⟩)
  -- behind 'beside' s: what 'over' says
  have last : ∀ s o : Int, (s = 0 ∨ s = 1) → (o = 0 ∨ o = 1) → (s = 1 → tch B N g q) → (o = 1 → N.2 g < N.2 q + B.2.2.1 q ∧ N.2 q < N.2 g + B.2.2.1 g) → (s = 0 → ¬ (N.1 g = N.1 q ∧ (N.2 g + B.2.2.1 g = N.2 q ∨ N.2 q + B.2.2.1 q = N.2 g))) → (o = 0 → ¬ (N.2 g < N.2 q + B.2.2.1 q ∧ N.2 q < N.2 g + B.2.2.1 g)) → wp_X7_doTouch_132 N Q g q s o := by
    intro s o hs ho s1 o1 s0 o0
    unfold wp_X7_doTouch_132
    refine ⟨⟨by omega, by omega⟩, fun z => h1 (s1 (by omega)), fun z => ⟨⟨by omega, by omega⟩, fun y => h0 (fun x => ?_), fun y => ⟨⟨g0, g1⟩, ⟨q0, q1⟩, ⟨by omega, by omega⟩, fun w => h1 ⟨⟨a, b⟩, Or.inr ⟨o1 (by omega), Or.inl w⟩⟩, fun w => ⟨⟨by omega, by omega⟩, fun v => h0 (fun x => ?_), fun v => h1 ⟨⟨a, b⟩, Or.inr ⟨o1 (by omega), Or.inr (Decidable.of_not_not v)⟩⟩⟩⟩⟩⟩
    · rcases x.2 with x1 | ⟨x1, _⟩
      · exact s0 (by omega) x1
      · exact o0 y x1
    · rcases x.2 with x1 | ⟨_, x1⟩
      · exact s0 (by omega) x1
      · omega
  have mid : ∀ s : Int, (s = 0 ∨ s = 1) → (s = 1 → tch B N g q) → (s = 0 → ¬ (N.1 g = N.1 q ∧ (N.2 g + B.2.2.1 g = N.2 q ∨ N.2 q + B.2.2.1 q = N.2 g))) → wp_X7_doTouch_82 B N Q g q s := by
    intro s hs s1 s0
    unfold wp_X7_doTouch_82
    refine ⟨⟨g0, g1⟩, ⟨q0, q1⟩, ⟨by omega, by omega⟩, ⟨by omega, by omega⟩, fun z => last s 0 hs (Or.inl rfl) s1 (fun y => by omega) s0 (fun _ y => by omega), fun z => ⟨⟨by omega, by omega⟩, ⟨by omega, by omega⟩, fun y => last s 0 hs (Or.inl rfl) s1 (fun x => by omega) s0 (fun _ x => by omega), fun y => last s 1 hs (Or.inr rfl) s1 (fun _ => ⟨by omega, by omega⟩) s0 (fun x => by omega)⟩⟩
  refine ⟨fun z => mid 0 (Or.inl rfl) (fun y => by omega) (fun _ y => z y.1), fun z => ⟨⟨by omega, by omega⟩, ⟨by omega, by omega⟩, fun y => mid 1 (Or.inr rfl) (fun _ => ⟨⟨a, b⟩, Or.inl ⟨Decidable.of_not_not z, Or.inl y⟩⟩) (fun x => by omega), fun y => ⟨⟨by omega, by omega⟩, ⟨by omega, by omega⟩, fun x => mid 0 (Or.inl rfl) (fun w => by omega) (fun _ w => by omega), fun x => mid 1 (Or.inr rfl) (fun _ => ⟨⟨a, b⟩, Or.inl ⟨Decidable.of_not_not z, Or.inr (Decidable.of_not_not x)⟩⟩) (fun w => by omega)⟩⟩⟩
/-- (the place found, or -6; how many so far) -/
def tcF (B : gMB) (N : gMN) (i g : Int) : Int → (Int × Int) → (Int × Int) := fun q s => if s.1 = -6 then (if tch B N g q then (if s.2 = i then (10 * g + q, s.2) else (-6, s.2 + 1)) else s) else s
def tcG (B : gMB) (N : gMN) (i : Int) : Int → (Int × Int) → (Int × Int) := fun g s => itI (tcF B N i g) (g + 1) 10 s
def tcT (B : gMB) (N : gMN) (i : Int) : Int × Int := itI (tcG B N i) 0 10 (-6, 0)
def vTouch (B : gMB) (N : gMN) (i : Int) : Int := if (tcT B N i).1 = -6 then (if i = -1 then (tcT B N i).2 else -6) else (tcT B N i).1
theorem tc_stay {B : gMB} {N : gMN} {i g lo hi : Int} {s : Int × Int} (h : s.1 ≠ -6) : itI (tcF B N i g) lo hi s = s := itI_id (fun q _ _ => if_neg h)
theorem tc_stay2 {B : gMB} {N : gMN} {i lo hi : Int} {s : Int × Int} (h : s.1 ≠ -6) : itI (tcG B N i) lo hi s = s := itI_id (fun g _ _ => tc_stay h)
theorem tc_found {B : gMB} {N : gMN} {i g q a : Int} {s : Int × Int} (g0 : 0 ≤ g) (g1 : g < 10) (q0 : g + 1 ≤ q) (q1 : q < 10) (hs : itI (tcG B N i) 0 g (-6, 0) = s) (hq : itI (tcF B N i g) (g + 1) q s = (-6, a)) (ht : tch B N g q) (ha : a = i) : vTouch B N i = 10 * g + q := by
  have e : tcT B N i = (10 * g + q, a) := by
    unfold tcT
    rw [itI_split (mid := g) g0 (by omega), hs, itI_1 g1]
    have e2 : tcG B N i g s = (10 * g + q, a) := by
      unfold tcG
      rw [itI_split (mid := q) q0 (by omega), hq, itI_1 q1, show tcF B N i g q (-6, a) = (10 * g + q, a) from (if_pos rfl).trans ((if_pos ht).trans (if_pos ha))]
      exact tc_stay (by dsimp only; omega)
    rw [e2]
    exact tc_stay2 (by dsimp only; omega)
  unfold vTouch
  rw [e, if_neg (by dsimp only; omega)]
theorem s_touch {B : gMB} {N : gMN} {S : gWS} {T : gWT} {i : Int} {Q : Int → Prop} (hI : Inv B N) (hS : SR B S) (hT : TR B N T) (ri : rI i) (h : Q (vTouch B N i)) : wp_X6_touch S T i Q := by
  obtain ⟨hB, hN, hD, hSp, hO⟩ := id hI
  unfold wp_X6_touch
  refine lp_inv (fun m g (a : Int) => wp_X6_touch_4 S T _ _ Q m i a g) 10 (fun g a => 0 ≤ g ∧ (0 ≤ a ∧ a ≤ 10 * g) ∧ itI (tcG B N i) 0 g (-6, 0) = (-6, a)) ?_ ?_ 0 0 (by omega) ⟨by omega, ⟨by omega, by omega⟩, itI_0 (by omega)⟩
  · rintro m a ⟨hg, ha, e⟩
    show wp_X6_touch_4 _ _ _ _ _ (m + 1) _ _ _
    unfold wp_X6_touch_4
    have et : tcT B N i = (-6, a) := e
    unfold vTouch at h
    rw [et, if_pos rfl] at h
    refine ⟨by decide, fun _ => ⟨ri, fun z => ?_, fun z => ?_⟩, fun q => absurd (Int.le_refl 10) q⟩
    · rw [if_neg z] at h; exact h
    · rw [if_pos (Decidable.of_not_not z)] at h; exact h
  · rintro m g a hlt ⟨hg, ha, e⟩ ih
    show wp_X6_touch_4 _ _ _ _ _ (m + 1) _ _ _
    unfold wp_X6_touch_4
    refine ⟨⟨by omega, by omega⟩, fun q => by omega, fun _ => ?_⟩
    refine lp_inv (fun m q (b : Int) => wp_X6_touch_15 S T _ _ Q m i b g q) 10 (fun q b => g + 1 ≤ q ∧ (0 ≤ b ∧ b ≤ 10 * g + (q - g - 1)) ∧ itI (tcF B N i g) (g + 1) q (-6, a) = (-6, b)) ?_ ?_ (g + 1) a (by omega) ⟨by omega, ⟨by omega, by omega⟩, itI_0 (by omega)⟩
    · rintro m2 b ⟨hq, hb, e2⟩
      show wp_X6_touch_15 _ _ _ _ _ (m2 + 1) _ _ _ _
      unfold wp_X6_touch_15
      refine ⟨by decide, fun _ => ih b ⟨by omega, ⟨by omega, by omega⟩, ?_⟩, fun q => absurd (Int.le_refl 10) q⟩
      rw [itI_s hg, e]; exact e2
    · rintro m2 q b hq1 ⟨hq, hb, e2⟩ ih2
      show wp_X6_touch_15 _ _ _ _ _ (m2 + 1) _ _ _ _
      unfold wp_X6_touch_15
      refine ⟨⟨by omega, by omega⟩, fun q => by omega, fun _ => s_areSideBySide hB hN hS hT hg hlt (by omega) hq1 (fun t => ⟨fun z => absurd z (by decide), fun _ => ⟨⟨by omega, by omega⟩, ri, fun z => ?_, fun z => ?_⟩⟩) (fun t => ⟨fun _ => ?_, fun z => absurd rfl z⟩)⟩
      · refine ih2 _ ⟨by omega, ⟨by omega, by omega⟩, ?_⟩
        rw [itI_s hq, e2]; exact (if_pos rfl).trans ((if_pos t).trans (if_neg z))
      · rw [tc_found hg hlt hq hq1 e e2 t (Decidable.of_not_not z)] at h
        exact h
      · refine ih2 _ ⟨by omega, ⟨by omega, by omega⟩, ?_⟩
        rw [itI_s hq, e2]; exact (if_pos rfl).trans (if_neg t)
theorem s_X7_touch {B : gMB} {P : gMP} {N : gMN} {i : Int} {Q : Int → gMN → Prop} (hI : Inv B P) (hN : Z10 N.1 ∧ Z10 N.2) (ri : rI i) (h : ∀ N', (Z10 N'.1 ∧ Z10 N'.2) → Q (vTouch B P i) N') : wp_X7_touch B P N i Q := by
  obtain ⟨hB, hP, hD, hSp, hO⟩ := id hI
  have hR := hP.nr hB
  replace h := h P hP.1
  unfold wp_X7_touch
  refine s_X7_asNow hP.1 hN ?_
  refine lp_inv (fun m g (a : Int) => wp_X7_touch_8 B _ _ Q m i a g P) 10 (fun g a => 0 ≤ g ∧ (0 ≤ a ∧ a ≤ 10 * g) ∧ itI (tcG B P i) 0 g (-6, 0) = (-6, a)) ?_ ?_ 0 0 (by omega) ⟨by omega, ⟨by omega, by omega⟩, itI_0 (by omega)⟩
  · rintro m a ⟨hg, ha, e⟩
    show wp_X7_touch_8 _ _ _ _ (m + 1) _ _ _ _
    unfold wp_X7_touch_8
    have et : tcT B P i = (-6, a) := e
    unfold vTouch at h
    rw [et, if_pos rfl] at h
    refine ⟨by decide, fun _ => ⟨ri, fun z => ?_, fun z => ?_⟩, fun q => absurd (Int.le_refl 10) q⟩
    · rw [if_neg z] at h; exact h
    · rw [if_pos (Decidable.of_not_not z)] at h; exact h
  · rintro m g a hlt ⟨hg, ha, e⟩ ih
    show wp_X7_touch_8 _ _ _ _ (m + 1) _ _ _ _
    unfold wp_X7_touch_8
    refine ⟨⟨by omega, by omega⟩, fun q => by omega, fun _ => ?_⟩
    refine lp_inv (fun m q (b : Int) => wp_X7_touch_19 B _ _ Q m i b g q P) 10 (fun q b => g + 1 ≤ q ∧ (0 ≤ b ∧ b ≤ 10 * g + (q - g - 1)) ∧ itI (tcF B P i g) (g + 1) q (-6, a) = (-6, b)) ?_ ?_ (g + 1) a (by omega) ⟨by omega, ⟨by omega, by omega⟩, itI_0 (by omega)⟩
    · rintro m2 b ⟨hq, hb, e2⟩
      show wp_X7_touch_19 _ _ _ _ (m2 + 1) _ _ _ _ _
      unfold wp_X7_touch_19
      refine ⟨by decide, fun _ => ih b ⟨by omega, ⟨by omega, by omega⟩, ?_⟩, fun q => absurd (Int.le_refl 10) q⟩
      rw [itI_s hg, e]; exact e2
    · rintro m2 q b hq1 ⟨hq, hb, e2⟩ ih2
      show wp_X7_touch_19 _ _ _ _ (m2 + 1) _ _ _ _ _
      unfold wp_X7_touch_19
      refine ⟨⟨by omega, by omega⟩, fun q => by omega, fun _ => s_X7_doTouch hR hg hlt (by omega) hq1 (fun t => ⟨fun z => absurd z (by decide), fun _ => ⟨⟨by omega, by omega⟩, ri, fun z => ?_, fun z => ?_⟩⟩) (fun t => ⟨fun _ => ?_, fun z => absurd rfl z⟩)⟩
      · refine ih2 _ ⟨by omega, ⟨by omega, by omega⟩, ?_⟩
        rw [itI_s hq, e2]; exact (if_pos rfl).trans ((if_pos t).trans (if_neg z))
      · rw [tc_found hg hlt hq hq1 e e2 t (Decidable.of_not_not z)] at h
        exact h
      · refine ih2 _ ⟨by omega, ⟨by omega, by omega⟩, ?_⟩
        rw [itI_s hq, e2]; exact (if_pos rfl).trans (if_neg t)
/-! gaps -/
def gpF (B : gMB) (N : gMN) (k : Int) : Int → Int := fun r => if who B N r k < 0 then 1 else 0
def gp (B : gMB) (N : gMN) (k : Int) : Int := sm (gpF B N k) 0 (hgt B N k)
def gcF (B : gMB) (N : gMN) (c : Int) : Int → Int := fun k => if c = -1 ∨ c = k then gp B N k else 0
def vGaps (B : gMB) (N : gMN) (c : Int) : Int := if ¬ (-1 ≤ c ∧ c ≤ B.1 - 1) then -1 else sm (gcF B N c) 0 B.1
theorem gp_r {B : gMB} {N : gMN} {k : Int} (i : Int) (h0 : 0 ≤ i) : 0 ≤ sm (gpF B N k) 0 i ∧ sm (gpF B N k) 0 i ≤ i := itI_ind (P := fun i a => 0 ≤ a ∧ a ≤ i) h0 ⟨by omega, by omega⟩ (fun r a _ _ h => by
  unfold gpF; split <;> omega)
theorem s_emptyCells {B : gMB} {N : gMN} {T : gWT} {k : Int} {Q : Int → Prop} (hT : TR B N T) (k0 : 0 ≤ k) (k1 : k < 9) (hh : hgt B N k ≤ 10) (h : Q (gp B N k)) : wp_X5_emptyCells T k Q := by
  have h0 := hgt_0 B N k
  unfold wp_X5_emptyCells
  refine s_at ⟨k0, k1⟩ (by omega) ?_
  rw [hT.2.2.2 k k0 k1]
  refine lp_inv (fun m r (a : Int) => wp_X5_emptyCells_14 T (fun x2 => Q x2) Q m k a (hgt B N k) r) (hgt B N k) (fun r a => 0 ≤ r ∧ a = sm (gpF B N k) 0 r) ?_ ?_ 0 0 h0 ⟨by omega, (sm_0 (by omega)).symm⟩
  · rintro m a ⟨hr, rfl⟩
    show wp_X5_emptyCells_14 _ _ _ (m + 1) _ _ _ _
    unfold wp_X5_emptyCells_14
    exact ⟨⟨by omega, by omega⟩, ⟨by omega, by omega⟩, fun _ => h, fun q => absurd (Int.le_refl _) q⟩
  · rintro m r a hlt ⟨hr, rfl⟩ ih
    show wp_X5_emptyCells_14 _ _ _ (m + 1) _ _ _ _
    unfold wp_X5_emptyCells_14 wp_X5_cellAt
    refine ⟨⟨by omega, by omega⟩, ⟨by omega, by omega⟩, fun q => by omega, fun _ => s_at ⟨by omega, by omega⟩ (by omega) ?_⟩
    rw [hT.2.2.1 r k hr (by omega) k0 k1]
    have hc := @cv_r B N r k
    refine ⟨⟨by omega, by omega⟩, fun z => ih _ ⟨by omega, ?_⟩, fun z => ih _ ⟨by omega, ?_⟩⟩
    · rw [sm_s hr, show gpF B N k r = 0 from if_neg (fun q => z (cv_z.mpr q))]; omega
    · rw [sm_s hr, show gpF B N k r = 1 from if_pos (cv_z.mp (Decidable.of_not_not z))]
theorem hgt_10 {B : gMB} {N : gMN} (hN : NOk B N) (k : Int) : hgt B N k ≤ 10 := by
  rcases (hgt_is B N k).2 with z | ⟨j, j0, j1, j2, j3⟩
  · omega
  · have := j2.1
    rcases hN.2 j j0 j1 with q | q <;> omega
theorem s_gaps {B : gMB} {N : gMN} {S : gWS} {T : gWT} {c : Int} {Q : Int → Prop} (hI : Inv B N) (hS : SR B S) (hT : TR B N T) (rc : rI c) (h : Q (vGaps B N c)) : wp_X6_gaps S T c Q := by
  obtain ⟨hB, hN, hD, hSp, hO⟩ := id hI
  have hn := hB.1
  have main : (-1 ≤ c ∧ c ≤ B.1 - 1) → wp_X6_gaps_15 S T Q c := fun hc => by
    unfold vGaps at h
    rw [if_neg (fun q => q hc)] at h
    unfold wp_X6_gaps_15
    rw [hS.1]
    refine lp_inv (fun m k (a : Int) => wp_X6_gaps_28 T (fun x2 => Q x2) Q m c a B.1 k) B.1 (fun k a => 0 ≤ k ∧ a = sm (gcF B N c) 0 k) ?_ ?_ 0 0 (by omega) ⟨by omega, (sm_0 (by omega)).symm⟩
    · rintro m a ⟨hk, rfl⟩
      show wp_X6_gaps_28 _ _ _ (m + 1) _ _ _ _
      unfold wp_X6_gaps_28
      exact ⟨⟨by omega, by omega⟩, ⟨by omega, by omega⟩, fun _ => h, fun q => absurd (Int.le_refl _) q⟩
    · rintro m k a hlt ⟨hk, rfl⟩ ih
      have one : (c = -1 ∨ c = k) → wp_X6_gaps_45 T (fun (x1 : Int) (x2 : Int) (x3 : Int) (x4 : Int) => wp_X6_gaps_28 T (fun x2 => Q x2) Q m x1 x2 x3 x4) Q c (sm (gcF B N c) 0 k) B.1 k := fun z => by
        unfold wp_X6_gaps_45
        refine s_emptyCells hT hk (by omega) (hgt_10 hN k) (ih _ ⟨by omega, ?_⟩)
        rw [sm_s hk, show gcF B N c k = gp B N k from if_pos z]
      show wp_X6_gaps_28 _ _ _ (m + 1) _ _ _ _
      unfold wp_X6_gaps_28
      refine ⟨⟨by omega, by omega⟩, ⟨by omega, by omega⟩, fun q => by omega, fun _ => ⟨rc, fun z => one (Or.inl z), fun z => ⟨fun y => ih _ ⟨by omega, ?_⟩, fun y => one (Or.inr (Decidable.of_not_not y))⟩⟩⟩
      rw [sm_s hk, show gcF B N c k = 0 from if_neg (fun q => by rcases q with q | q; exact z q; exact y q)]; omega
  unfold wp_X6_gaps
  refine ⟨rc, fun z => main ⟨by omega, by omega⟩, fun z => s_isNoColumn hB hS rc (fun a b => ⟨fun _ => main ⟨by omega, by omega⟩, fun q => absurd rfl q⟩) (fun a => ⟨fun q => absurd q (by decide), fun _ => ?_⟩)⟩
  unfold vGaps at h
  rw [if_pos (fun q => by omega)] at h
  exact h
theorem s_X7_gaps {B : gMB} {P : gMP} {N : gMN} {c : Int} {Q : Int → gMN → Prop} (hI : Inv B P) (hN : Z10 N.1 ∧ Z10 N.2) (rc : rI c) (h : ∀ N', (Z10 N'.1 ∧ Z10 N'.2) → Q (vGaps B P c) N') : wp_X7_gaps B P N c Q := by
  obtain ⟨hB, hP, hD, hSp, hO⟩ := id hI
  have hn := hB.1
  have hR := hP.nr hB
  unfold wp_X7_gaps vGaps at *
  refine s_X7_in rc (by decide) ⟨by omega, by omega⟩ (fun c0 c1 => ⟨fun _ => ?_, fun q => absurd (by decide) q⟩) (fun a => ⟨fun q => absurd rfl q, fun _ => ?_⟩)
  · rw [if_neg (fun q => q ⟨c0, c1⟩)] at h
    replace h := h P hP.1
    refine s_X7_asNow hP.1 hN ?_
    refine lp_inv (fun m k (a : Int) => wp_X7_gaps_24 B (fun x2 N => Q x2 N) Q m c a k P) B.1 (fun k a => 0 ≤ k ∧ a = sm (gcF B P c) 0 k) ?_ ?_ 0 0 (by omega) ⟨by omega, (sm_0 (by omega)).symm⟩
    · rintro m a ⟨hk, rfl⟩
      show wp_X7_gaps_24 _ _ _ (m + 1) _ _ _ _
      unfold wp_X7_gaps_24
      exact ⟨⟨by omega, by omega⟩, ⟨by omega, by omega⟩, fun _ => h, fun q => absurd (Int.le_refl _) q⟩
    · rintro m k a hlt ⟨hk, rfl⟩ ih
      have hh := hgt_r (c := k) hR
      show wp_X7_gaps_24 _ _ _ (m + 1) _ _ _ _
      unfold wp_X7_gaps_24
      refine ⟨⟨by omega, by omega⟩, ⟨by omega, by omega⟩, fun q => by omega, fun _ => ?_⟩
      refine lp_inv (fun m r (a : Int) => wp_X7_gaps_35 B _ Q m c a k r P) (hgt B P k) (fun r a => 0 ≤ r ∧ a = sm (gcF B P c) 0 k + (if c = -1 ∨ c = k then sm (gpF B P k) 0 r else 0)) ?_ ?_ 0 _ hh.1 ⟨by omega, by rw [sm_0 (f := gpF B P k) (Int.le_refl 0)]; split <;> omega⟩
      · rintro m2 a ⟨hr, rfl⟩
        show wp_X7_gaps_35 _ _ _ (m2 + 1) _ _ _ _ _
        unfold wp_X7_gaps_35
        refine s_X7_heightOf hR ⟨by omega, by omega⟩ ⟨⟨by omega, by omega⟩, ⟨by omega, by omega⟩, fun _ => ih _ ⟨by omega, ?_⟩, fun q => absurd (Int.le_refl _) q⟩
        rw [sm_s hk]; rfl
      · rintro m2 r a hr1 ⟨hr, rfl⟩ ih2
        have one : (c = -1 ∨ c = k) → wp_X7_gaps_55 B (fun (x1 : Int) (x2 : Int) (x3 : Int) (x4 : Int) (N_h : gMN) => wp_X7_gaps_35 B (fun (x1 : Int) (x2 : Int) (x3 : Int) (N_h : gMN) => wp_X7_gaps_24 B (fun x2 N => Q x2 N) Q m x1 x2 (x3 + 1) N_h) Q m2 x1 x2 x3 x4 N_h) Q c k r (sm (gcF B P c) 0 k + (if c = -1 ∨ c = k then sm (gpF B P k) 0 r else 0)) P := fun z => by
          unfold wp_X7_gaps_55
          refine s_X7_whose hR ⟨by omega, by omega⟩ ⟨by omega, by omega⟩ ?_
          have hw := @who_rng B P r k
          refine ⟨⟨by omega, by omega⟩, fun y => ih2 _ ⟨by omega, ?_⟩, fun y => ih2 _ ⟨by omega, ?_⟩⟩
          · rw [if_pos z, if_pos z, sm_s hr, show gpF B P k r = 0 from if_neg (by omega)]; omega
          · rw [if_pos z, if_pos z, sm_s hr, show gpF B P k r = 1 from if_pos (by omega)]; omega
        show wp_X7_gaps_35 _ _ _ (m2 + 1) _ _ _ _ _
        unfold wp_X7_gaps_35
        refine s_X7_heightOf hR ⟨by omega, by omega⟩ ⟨⟨by omega, by omega⟩, ⟨by omega, by omega⟩, fun q => by omega, fun _ => ⟨rc, fun z => one (Or.inl (by omega)), fun z => ⟨⟨by omega, by omega⟩, fun y => ih2 _ ⟨by omega, ?_⟩, fun y => one (Or.inr (Decidable.of_not_not y).symm)⟩⟩⟩
        rw [if_neg (by omega), if_neg (by omega)]; omega
  · rw [if_pos a] at h; exact h N hN
