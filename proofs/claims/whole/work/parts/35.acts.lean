/-! the PAD and its ACTS -/
def PadR (P : gPP) (D : gMD) : Prop := P.1 = D.1 ∧ (0 ≤ D.1 ∧ D.1 ≤ 60) ∧ ∀ j, 0 ≤ j → j < D.1 → P.2 j = D.2 j ∧ 33 ≤ D.2 j ∧ D.2 j ≤ 126
abbrev std (n : Int) (D : gMD) (k : Int) : Prop := (k % 2 = 0 → 65 ≤ D.2 k ∧ D.2 k ≤ 74) ∧ (k % 2 = 1 → D.2 k = 45 ∨ (48 ≤ D.2 k ∧ D.2 k < 48 + n))
def ffF (n : Int) (D : gMD) : Int → Int → Int := fun k s => if s = -6 then (if std n D k then -6 else k) else s
def ff (n : Int) (D : gMD) : Int := if itI (ffF n D) 0 D.1 (-6) = -6 then (if D.1 % 2 = 1 then D.1 else -6) else itI (ffF n D) 0 D.1 (-6)
theorem ff_pre {n : Int} {D : gMD} {k : Int} (k0 : 0 ≤ k) (h : ∀ j, 0 ≤ j → j < k → std n D j) : itI (ffF n D) 0 k (-6) = -6 :=
  itI_id (fun i i0 i1 => (if_pos rfl).trans (if_pos (h i i0 i1)))
theorem ff_bad {n : Int} {D : gMD} {k : Int} (k0 : 0 ≤ k) (k1 : k < D.1) (h : ∀ j, 0 ≤ j → j < k → std n D j) (hk : ¬ std n D k) : ff n D = k := by
  have e : itI (ffF n D) 0 D.1 (-6) = k := by
    rw [itI_split (mid := k) k0 (by omega), ff_pre k0 h, itI_1 k1, show ffF n D k (-6) = k from (if_pos rfl).trans (if_neg hk)]
    exact itI_id (fun i i0 i1 => if_neg (by omega))
  unfold ff
  rw [e, if_neg (by omega)]
theorem ff_all {n : Int} {D : gMD} (h0 : 0 ≤ D.1) (h : ∀ j, 0 ≤ j → j < D.1 → std n D j) : ff n D = if D.1 % 2 = 1 then D.1 else -6 := by
  unfold ff
  rw [ff_pre h0 h, if_pos rfl]
theorem ff_none {n : Int} {D : gMD} (h0 : 0 ≤ D.1) (h : ff n D = -6) : D.1 % 2 = 0 ∧ ∀ j, 0 ≤ j → j < D.1 → std n D j := by
  by_cases a : ∀ j, 0 ≤ j → j < D.1 → std n D j
  · rw [ff_all h0 a] at h
    refine ⟨?_, a⟩
    by_cases e : D.1 % 2 = 1
    · rw [if_pos e] at h; omega
    · omega
  · exfalso
    have key : ∀ k : Nat, (k : Int) ≤ D.1 → (∀ j, 0 ≤ j → j < (k : Int) → std n D j) := by
      intro k
      induction k with
      | zero => intro _ j j0 j1; omega
      | succ k ih =>
        intro hk j j0 j1
        have ih := ih (by omega)
        by_cases ej : j = k
        · subst ej
          refine Decidable.byContradiction fun b => ?_
          have := ff_bad (by omega) (by omega) ih b
          omega
        · exact ih j j0 (by omega)
    exact a (fun j j0 j1 => key (D.1.toNat) (by omega) j j0 (by omega))
theorem ff_r {n : Int} {D : gMD} (h0 : 0 ≤ D.1 ∧ D.1 ≤ 60) : ff n D = -6 ∨ (0 ≤ ff n D ∧ ff n D ≤ 60) := by
  have h1 := itI_ind (f := ffF n D) (s := -6) (P := fun k s => s = -6 ∨ (0 ≤ s ∧ s < k)) (lo := 0) (hi := D.1) h0.1 (Or.inl rfl) (fun k s k0 k1 h => by
    unfold ffF
    split
    · split
      · exact Or.inl rfl
      · exact Or.inr ⟨k0, by omega⟩
    · omega)
  unfold ff
  split
  · split <;> omega
  · omega
theorem s_firstFault {P : gPP} {D : gMD} {n : Int} {Q : Int → Prop} (hP : PadR P D) (hn : 0 ≤ n ∧ n ≤ 9) (h : Q (ff n D)) : wp_X2_firstFault P n Q := by
  obtain ⟨e1, h0, hd⟩ := hP
  unfold wp_X2_firstFault
  rw [e1]
  refine lp_inv (fun m i (_ : Unit) => wp_X2_firstFault_7 P _ _ Q m n D.1 i) D.1 (fun i _ => 0 ≤ i ∧ ∀ j, 0 ≤ j → j < i → std n D j) ?_ ?_ 0 () h0.1 ⟨by omega, fun j _ _ => by omega⟩
  · rintro m _ ⟨hi, a⟩
    show wp_X2_firstFault_7 _ _ _ _ (m + 1) _ _ _
    unfold wp_X2_firstFault_7
    rw [ff_all h0.1 a] at h
    refine ⟨⟨by omega, by omega⟩, ⟨by omega, by omega⟩, fun _ => ?_, fun q => absurd (Int.le_refl _) q⟩
    rw [Int.tmod_eq_emod_of_nonneg h0.1]
    refine ⟨⟨by omega, by omega⟩, ⟨by omega, by omega⟩, fun z => ?_, fun z => ?_⟩
    · rw [if_neg z] at h; exact h
    · rw [if_pos (Decidable.of_not_not z)] at h; exact h
  · rintro m i _ hlt ⟨hi, a⟩ ih
    have bad : ¬ std n D i → Q i := fun b => by rw [ff_bad hi hlt a b] at h; exact h
    have good : std n D i → wp_X2_firstFault_7 P (fun x3 => Q x3) (fun x2 => rI x2 ∧ rI (x2.tmod 2) ∧ ((¬ (x2.tmod 2) = 1 → Q (-6)) ∧ (¬ (¬ (x2.tmod 2) = 1) → Q x2))) Q m n D.1 (i + 1) := fun g => ih () ⟨by omega, fun j j0 j1 => by
      by_cases ej : j = i
      · subst ej; exact g
      · exact a j j0 (by omega)⟩
    obtain ⟨d1, d2, d3⟩ := hd i hi hlt
    show wp_X2_firstFault_7 _ _ _ _ (m + 1) _ _ _
    unfold wp_X2_firstFault_7
    refine ⟨⟨by omega, by omega⟩, ⟨by omega, by omega⟩, fun q => by omega, fun _ => s_at ⟨hi, by omega⟩ (by omega) ?_⟩
    rw [d1, Int.tmod_eq_emod_of_nonneg hi]
    have c1 : ∀ x : Int, std n D i → x = 1 → wp_X2_firstFault_78 (fun (x1 : Int) (x2 : Int) (x3 : Int) => wp_X2_firstFault_7 P (fun x3 => Q x3) (fun x2 => rI x2 ∧ rI (x2.tmod 2) ∧ ((¬ (x2.tmod 2) = 1 → Q (-6)) ∧ (¬ (¬ (x2.tmod 2) = 1) → Q x2))) Q m x1 x2 x3) (fun x3 => Q x3) Q n D.1 i x := fun x g ex => by
      subst ex
      unfold wp_X2_firstFault_78
      exact ⟨by decide, fun _ => good g, fun z => absurd (by decide) z⟩
    have c0 : ∀ x : Int, ¬ std n D i → x = 0 → wp_X2_firstFault_78 (fun (x1 : Int) (x2 : Int) (x3 : Int) => wp_X2_firstFault_7 P (fun x3 => Q x3) (fun x2 => rI x2 ∧ rI (x2.tmod 2) ∧ ((¬ (x2.tmod 2) = 1 → Q (-6)) ∧ (¬ (¬ (x2.tmod 2) = 1) → Q x2))) Q m x1 x2 x3) (fun x3 => Q x3) Q n D.1 i x := fun x b ex => by
      subst ex
      unfold wp_X2_firstFault_78
      exact ⟨by decide, fun z => absurd rfl z, fun _ => bad b⟩
    refine ⟨⟨by omega, by omega⟩, fun odd => ⟨⟨by omega, by omega⟩, fun z => ?_, fun z => ⟨fun y => ?_, fun y => ⟨⟨by omega, by omega⟩, fun w => ?_, fun w => ?_⟩⟩⟩, fun even => ⟨⟨by omega, by omega⟩, fun z => ?_, fun z => ⟨fun y => ?_, fun y => ?_⟩⟩⟩
    · exact c1 1 ⟨fun q => by omega, fun _ => Or.inl z⟩ rfl
    · exact c0 0 (fun g => by have := g.2 (by omega); omega) rfl
    · exact c0 0 (fun g => by have := g.2 (by omega); omega) rfl
    · exact c1 1 ⟨fun q => by omega, fun _ => Or.inr ⟨by omega, by omega⟩⟩ rfl
    · exact c0 0 (fun g => by have := g.1 (by omega); omega) rfl
    · exact c0 0 (fun g => by have := g.1 (by omega); omega) rfl
    · exact c1 1 ⟨fun q => by omega, fun q => by omega⟩ rfl
theorem s_X7_faultOf {B : gMB} {D : gMD} {Q : Int → Prop} (hB : BOk B) (h0 : 0 ≤ D.1 ∧ D.1 ≤ 60) (hd : ∀ j, 0 ≤ j → j < D.1 → 33 ≤ D.2 j ∧ D.2 j ≤ 126) (h : Q (ff B.1 D)) : wp_X7_faultOf B D Q := by
  have hn := hB.1
  unfold wp_X7_faultOf
  refine lp_inv (fun m i (_ : Unit) => wp_X7_faultOf_2 B D _ _ Q m i) D.1 (fun i _ => 0 ≤ i ∧ ∀ j, 0 ≤ j → j < i → std B.1 D j) ?_ ?_ 0 () h0.1 ⟨by omega, fun j _ _ => by omega⟩
  · rintro m _ ⟨hi, a⟩
    show wp_X7_faultOf_2 _ _ _ _ _ (m + 1) _
    unfold wp_X7_faultOf_2
    rw [ff_all h0.1 a] at h
    refine ⟨⟨by omega, by omega⟩, ⟨by omega, by omega⟩, fun _ => ?_, fun q => absurd (Int.le_refl _) q⟩
    rw [Int.tmod_eq_emod_of_nonneg h0.1]
    refine ⟨⟨by omega, by omega⟩, ⟨by omega, by omega⟩, fun z => ?_, fun z => ?_⟩
    · rw [if_neg z] at h; exact h
    · rw [if_pos (Decidable.of_not_not z)] at h; exact h
  · rintro m i _ hlt ⟨hi, a⟩ ih
    have bad : ¬ std B.1 D i → Q i := fun b => by rw [ff_bad hi hlt a b] at h; exact h
    obtain ⟨d2, d3⟩ := hd i hi hlt
    have c1 : ∀ x : Int, std B.1 D i → x = 1 → wp_X7_faultOf_70 (fun x1 => wp_X7_faultOf_2 B D (fun x1 => Q x1) (rI D.1 ∧ rI (D.1.tmod 2) ∧ ((¬ (D.1.tmod 2) = 1 → Q (-6)) ∧ (¬ (¬ (D.1.tmod 2) = 1) → Q D.1))) Q m x1) (fun x1 => Q x1) Q i x := fun x g ex => by
      subst ex
      unfold wp_X7_faultOf_70
      refine ⟨by decide, fun _ => ih () ⟨by omega, fun j j0 j1 => ?_⟩, fun z => absurd (by decide) z⟩
      by_cases ej : j = i
      · subst ej; exact g
      · exact a j j0 (by omega)
    have c0 : ∀ x : Int, ¬ std B.1 D i → x = 0 → wp_X7_faultOf_70 (fun x1 => wp_X7_faultOf_2 B D (fun x1 => Q x1) (rI D.1 ∧ rI (D.1.tmod 2) ∧ ((¬ (D.1.tmod 2) = 1 → Q (-6)) ∧ (¬ (¬ (D.1.tmod 2) = 1) → Q D.1))) Q m x1) (fun x1 => Q x1) Q i x := fun x b ex => by
      subst ex
      unfold wp_X7_faultOf_70
      exact ⟨by decide, fun z => absurd rfl z, fun _ => bad b⟩
    show wp_X7_faultOf_2 _ _ _ _ _ (m + 1) _
    unfold wp_X7_faultOf_2
    refine ⟨⟨by omega, by omega⟩, ⟨by omega, by omega⟩, fun q => by omega, fun _ => ?_⟩
    rw [Int.tmod_eq_emod_of_nonneg hi]
    refine ⟨⟨by omega, by omega⟩, fun odd => ⟨⟨hi, by omega⟩, ⟨by omega, by omega⟩, fun z => c1 1 ⟨fun q => by omega, fun _ => Or.inl z⟩ rfl, fun z => s_X7_in ⟨by omega, by omega⟩ ⟨by omega, by omega⟩ ⟨by omega, by omega⟩ (fun y1 y2 => ⟨fun q => absurd q (by decide), fun _ => c1 1 ⟨fun q => by omega, fun _ => Or.inr ⟨by omega, by omega⟩⟩ rfl⟩) (fun y => ⟨fun _ => c0 0 (fun g => ?_) rfl, fun q => absurd rfl q⟩)⟩, fun even => ⟨⟨hi, by omega⟩, s_X7_in ⟨by omega, by omega⟩ ⟨by omega, by omega⟩ ⟨by omega, by omega⟩ (fun y1 y2 => c1 1 ⟨fun q => by omega, fun q => by omega⟩ rfl) (fun y => c0 0 (fun g => ?_) rfl)⟩⟩
    · have := g.2 (by omega); omega
    · have := g.1 (by omega); omega
/-- an ACT, done on an abstract wall: why not (0: it is), the wall behind -/
def act (B : gMB) (D : gMD) (k : Int) (N : gMN) : Int × gMN := if D.2 (2 * k + 1) = 45 then mtake B N (D.2 (2 * k) - 65) else mput B N (D.2 (2 * k) - 65) (D.2 (2 * k + 1) - 48)
def yrF (B : gMB) (D : gMD) : Int → (Int × Int × gMN) → (Int × Int × gMN) := fun k s => if s.1 = -6 then (if (act B D k s.2.2).1 = 0 then (-6, 0, (act B D k s.2.2).2) else (k, (act B D k s.2.2).1, s.2.2)) else s
def yr (B : gMB) (D : gMD) (N : gMN) : Int × Int × gMN := itI (yrF B D) 0 (D.1 / 2) (-6, 0, N)
theorem act_r (B : gMB) (D : gMD) (k : Int) (N : gMN) : 0 ≤ (act B D k N).1 ∧ (act B D k N).1 ≤ 5 := by
  unfold act
  split
  · exact mtake_r B N _
  · have := mput_r B N (D.2 (2 * k) - 65) (D.2 (2 * k + 1) - 48); omega
theorem act_n {B : gMB} {D : gMD} {k : Int} {N : gMN} (h : (act B D k N).1 ≠ 0) : (act B D k N).2 = N := by
  unfold act at h ⊢
  split
  · rename_i a; rw [if_pos a] at h; exact mtake_n h
  · rename_i a; rw [if_neg a] at h; exact mput_n h
theorem act_inv {B : gMB} {D : gMD} {k : Int} {N : gMN} (hI : Inv B N) (h0 : std B.1 D (2 * k)) (h1 : std B.1 D (2 * k + 1)) : Inv B (act B D k N).2 := by
  have a := h0.1 (by omega)
  have b := h1.2 (by omega)
  unfold act
  split
  · exact inv_take hI (by omega) (by omega)
  · exact inv_put hI (by omega) (by omega) (by omega)
/-- the k-th state: all so far can be -/
theorem yr_s {B : gMB} {D : gMD} {N : gMN} {k : Int} (k0 : 0 ≤ k) : itI (yrF B D) 0 (k + 1) (-6, 0, N) = yrF B D k (itI (yrF B D) 0 k (-6, 0, N)) := itI_s k0
theorem yr_stop {B : gMB} {D : gMD} {N M : gMN} {k w : Int} (k0 : 0 ≤ k) (k1 : k < D.1 / 2) (h : itI (yrF B D) 0 k (-6, 0, N) = (-6, w, M)) (ha : (act B D k M).1 ≠ 0) : yr B D N = (k, (act B D k M).1, M) := by
  unfold yr
  rw [itI_split (mid := k) k0 (by omega), h, itI_1 k1, show yrF B D k (-6, w, M) = (k, (act B D k M).1, M) from (if_pos rfl).trans (if_neg ha)]
  exact itI_id (fun i i0 i1 => if_neg (by dsimp only; omega))
theorem yr_next {B : gMB} {D : gMD} {N M : gMN} {k w : Int} (k0 : 0 ≤ k) (h : itI (yrF B D) 0 k (-6, 0, N) = (-6, w, M)) (ha : (act B D k M).1 = 0) : itI (yrF B D) 0 (k + 1) (-6, 0, N) = (-6, 0, (act B D k M).2) := by
  rw [itI_s k0, h]
  exact (if_pos rfl).trans (if_pos ha)
theorem yr_r {B : gMB} {D : gMD} {N : gMN} (h : 0 ≤ D.1 ∧ D.1 ≤ 60) : ((yr B D N).1 = -6 ∨ (0 ≤ (yr B D N).1 ∧ (yr B D N).1 < 30)) ∧ 0 ≤ (yr B D N).2.1 ∧ (yr B D N).2.1 ≤ 5 := by
  refine itI_ind (f := yrF B D) (P := fun k s => (s.1 = -6 ∨ (0 ≤ s.1 ∧ s.1 < 30)) ∧ 0 ≤ s.2.1 ∧ s.2.1 ≤ 5) (lo := 0) (hi := D.1 / 2) (by omega) ⟨Or.inl rfl, by simp, by simp⟩ (fun k s k0 k1 hs => ?_)
  have := act_r B D k s.2.2
  unfold yrF
  split
  · split
    · exact ⟨Or.inl rfl, by simp, by simp⟩
    · exact ⟨Or.inr ⟨k0, by dsimp only; omega⟩, this⟩
  · exact hs
