/-! orders: the PAD's puts, and the class's call -/
def nmF (D : gMD) : Int → Int → Int := fun k a => ior a (ishl 1 (D.2 (2 * k) - 65))
def nm (D : gMD) (i : Int) : Int := itI (nmF D) 0 i 0
def gbad (D : gMD) (k : Int) : Bool := decide (D.2 (2 * k + 1) = 45) || sb (nm D k) (D.2 (2 * k) - 65)
def gok (D : gMD) (i : Int) : Bool := itI (fun k b => b && !gbad D k) 0 i true
theorem gok_iff {D : gMD} (i : Int) (h0 : 0 ≤ i) : gok D i = true ↔ ∀ k, 0 ≤ k → k < i → gbad D k = false := by
  refine itI_ind (f := fun k b => b && !gbad D k) (s := true) (P := fun i (b : Bool) => b = true ↔ ∀ k, 0 ≤ k → k < i → gbad D k = false) h0 ⟨fun _ k _ _ => by omega, fun _ => rfl⟩ (fun i b i0 i1 h => ?_)
  rw [Bool.and_eq_true, Bool.not_eq_true', h]
  constructor
  · rintro ⟨x, y⟩ k k0 k1
    by_cases e : k = i
    · subst e; exact y
    · exact x k k0 (by omega)
  · intro x
    exact ⟨fun k k0 k1 => x k k0 (by omega), x i i0 (by omega)⟩
abbrev GOk (D : gMD) (i : Int) : Prop := ∀ k, 0 ≤ k → k < i → gbad D k = false
abbrev SOk (D : gMD) (i : Int) : Prop := ∀ k, 0 ≤ k → k < i → (0 ≤ D.2 (2 * k) - 65 ∧ D.2 (2 * k) - 65 < 10)
theorem gbad_f {D : gMD} {k : Int} (h : gbad D k = false) : D.2 (2 * k + 1) ≠ 45 ∧ sb (nm D k) (D.2 (2 * k) - 65) = false := by
  unfold gbad at h
  rw [Bool.or_eq_false_iff, decide_eq_false_iff_not] at h
  exact h
theorem nm_s {D : gMD} {i : Int} (h : 0 ≤ i) : nm D (i + 1) = ior (nm D i) (ishl 1 (D.2 (2 * i) - 65)) := itI_s h
theorem nm_ok {D : gMD} (i : Int) (h0 : 0 ≤ i) (hs : SOk D i) : S10 (nm D i) := itI_ind (P := fun _ a => S10 a) h0 S10_0 (fun k a k0 k1 h => S10_or h (S10_shl (hs k k0 k1)))
theorem popc_add {s g : Int} (hs : S10 s) (hg : 0 ≤ g ∧ g < 10) (h : sb s g = false) : popc (ior s (ishl 1 g)) = popc s + 1 := by
  rw [popc_sm, popc_sm]
  have := sm_upd (f := fun k => bI (sb s k)) (f' := fun k => bI (sb (ior s (ishl 1 g)) k)) (lo := 0) (hi := 10) hg.1 hg.2 (fun k k0 _ e => by
    rw [sb_or hs (S10_shl hg), sb_shl hg k0, decide_eq_false (fun q => e q.symm), Bool.or_false])
  rw [this, sb_or hs (S10_shl hg), sb_shl hg hg.1, decide_eq_true rfl, h]
  rfl
theorem nm_popc {D : gMD} (n : Nat) (hs : SOk D n) (hg : GOk D n) : popc (nm D n) = n := by
  induction n with
  | zero =>
    rw [show nm D ((0 : Nat) : Int) = 0 from itI_0 (by omega)]
    decide
  | succ n ih =>
    have h1 := ih (fun k k0 k1 => hs k k0 (by omega)) (fun k k0 k1 => hg k k0 (by omega))
    rw [show ((n + 1 : Nat) : Int) = (n : Int) + 1 by omega, nm_s (by omega), popc_add (nm_ok _ (by omega) (fun k k0 k1 => hs k k0 (by omega))) (hs n (by omega) (by omega)) (gbad_f (hg n (by omega) (by omega))).2, h1]
def clF (D : gMD) (g : Int) : Int → Int → Int := fun k a => if D.2 (2 * k) - 65 = g then D.2 (2 * k + 1) - 48 else a
def col (D : gMD) (g : Int) : Int := itI (clF D g) 0 (D.1 / 2) 0
theorem col_r {D : gMD} {n g : Int} (hn : n ≤ 9) (h0 : 0 ≤ D.1) (hg : GOk D (D.1 / 2)) (hd : ∀ j, 0 ≤ j → j < D.1 → std n D j) : 0 ≤ col D g ∧ col D g ≤ 1000 := itI_ind (P := fun _ a => 0 ≤ a ∧ a ≤ 1000) (by omega) ⟨by omega, by omega⟩ (fun k a k0 k1 h => by
  have h1 := (gbad_f (hg k k0 k1)).1
  have h2 := (hd (2 * k + 1) (by omega) (by omega)).2 (by omega)
  unfold clF
  split <;> omega)
theorem s_guestOf {P : gPP} {D : gMD} {k : Int} {Q : Int → Prop} (hP : PadR P D) (k0 : 0 ≤ k) (k1 : k < D.1 / 2) (h : Q (D.2 (2 * k) - 65)) : wp_X2_guestOf P k Q := by
  have := hP.2.1
  unfold wp_X2_guestOf
  refine s_at ⟨by omega, by omega⟩ (by decide) ?_
  rw [(hP.2.2 (2 * k) (by omega) (by omega)).1]; exact h
theorem s_columnOf {P : gPP} {D : gMD} {k : Int} {Q : Int → Prop} (hP : PadR P D) (k0 : 0 ≤ k) (k1 : k < D.1 / 2) (h : Q (if D.2 (2 * k + 1) = 45 then -1 else D.2 (2 * k + 1) - 48)) : wp_X2_columnOf P k Q := by
  have := hP.2.1
  have h2 := hP.2.2 (2 * k + 1) (by omega) (by omega)
  unfold wp_X2_columnOf
  refine s_at ⟨by omega, by omega⟩ (by decide) ?_
  rw [h2.1]
  refine ⟨⟨by omega, by omega⟩, fun q => ?_, fun q => ?_⟩
  · rw [if_neg q] at h; exact h
  · rw [if_pos (Decidable.of_not_not q)] at h; exact h
theorem s_acts {P : gPP} {D : gMD} {Q : Int → Prop} (hP : PadR P D) (h : Q (D.1 / 2)) : wp_X2_acts P Q := by
  have := hP.2.1
  unfold wp_X2_acts
  rw [hP.1, Int.tdiv_eq_ediv_of_nonneg this.1]
  exact ⟨⟨by omega, by omega⟩, h⟩
theorem iand_bit {s g : Int} (hs : S10 s) (hg : 0 ≤ g ∧ g < 10) : rI (iand s (ishl 1 g)) ∧ (iand s (ishl 1 g) = 0 ↔ sb s g = false) := by
  have hb := S10_shl hg
  have ha := S10_and hs hb
  refine ⟨⟨by have := ha.1; omega, by have := ha.2; omega⟩, fun e => ?_, fun e => ?_⟩
  · have := sb_and (g := g) hs hb
    rw [e, sb_0, sb_shl hg hg.1, decide_eq_true rfl, Bool.and_true] at this
    exact this.symm
  · refine sb_ext ha S10_0 (fun k k0 k1 => ?_)
    rw [sb_and hs hb, sb_shl hg k0, sb_0]
    by_cases q : g = k
    · subst q; rw [e]; rfl
    · rw [decide_eq_false q, Bool.and_false]
theorem s_guestsWhoPut {P : gPP} {D : gMD} {n : Int} {Q : Int → Prop} (hP : PadR P D) (hn : n ≤ 9) (hd : ∀ j, 0 ≤ j → j < D.1 → std n D j) (h1 : gok D (D.1 / 2) = true → Q (nm D (D.1 / 2))) (h0 : gok D (D.1 / 2) = false → Q (-5)) : wp_X6_guestsWhoPut P Q := by
  have hp := hP.2.1
  have hso : SOk D (D.1 / 2) := fun k k0 k1 => by have := (hd (2 * k) (by omega) (by omega)).1 (by omega); omega
  unfold wp_X6_guestsWhoPut
  refine s_acts hP ?_
  refine lp_inv (fun m i (x : Int) => wp_X6_guestsWhoPut_12 P (Q (-5)) (fun x1 => Q x1) Q m x (D.1 / 2) i) (D.1 / 2) (fun i x => 0 ≤ i ∧ x = nm D i ∧ GOk D i) ?_ ?_ 0 0 (by omega) ⟨by omega, (itI_0 (by omega)).symm, fun k _ _ => by omega⟩
  · rintro m x ⟨i0, e, hg⟩
    show wp_X6_guestsWhoPut_12 P (Q (-5)) (fun x1 => Q x1) Q (m + 1) x (D.1 / 2) (D.1 / 2)
    unfold wp_X6_guestsWhoPut_12
    exact ⟨⟨by omega, by omega⟩, ⟨by omega, by omega⟩, fun _ => by rw [e]; exact h1 ((gok_iff _ i0).mpr hg), fun q => absurd (Int.le_refl _) q⟩
  · rintro m i x hlt ⟨i0, e, hg⟩ ih
    have hx : S10 x := by rw [e]; exact nm_ok i i0 (fun k k0 k1 => hso k k0 (by omega))
    have hb := hso i i0 hlt
    have hc := (hd (2 * i + 1) (by omega) (by omega)).2 (by omega)
    obtain ⟨hr, hz⟩ := iand_bit hx hb
    have bad : gbad D i = true → Q (-5) := fun q => h0 (by
      cases hk : gok D (D.1 / 2)
      · rfl
      · have := (gok_iff _ (by omega)).mp hk i i0 hlt
        rw [q] at this; exact absurd this (by decide))
    show wp_X6_guestsWhoPut_12 P (Q (-5)) (fun x1 => Q x1) Q (m + 1) x (D.1 / 2) i
    unfold wp_X6_guestsWhoPut_12
    refine ⟨⟨by omega, by omega⟩, ⟨by omega, by omega⟩, fun q => by omega, fun _ => s_guestOf hP i0 hlt (s_columnOf hP i0 hlt ?_)⟩
    by_cases z : D.2 (2 * i + 1) = 45
    · rw [if_pos z]
      exact ⟨by decide, fun _ => bad (by unfold gbad; rw [decide_eq_true z]; rfl), fun q => absurd rfl q⟩
    · rw [if_neg z]
      refine ⟨⟨by omega, by omega⟩, fun q => by omega, fun _ => ⟨hr, fun y => ih _ ⟨by omega, ?_, ?_⟩, fun y => bad ?_⟩⟩
      · rw [nm_s i0, e]
      · intro k k0 k1
        by_cases ek : k = i
        · subst ek
          unfold gbad
          rw [decide_eq_false z, ← e, hz.mp y]; rfl
        · exact hg k k0 (by omega)
      · unfold gbad
        rw [← e]
        cases hb2 : sb x (D.2 (2 * i) - 65)
        · exact absurd (hz.mpr hb2) y
        · exact Bool.or_true _
theorem s_start {P : gPP} {D : gMD} {n : Int} {OC : gOOC} {O : gOO} {Q : gOOC → gOO → Prop} (hP : PadR P D) (hd : ∀ j, 0 ≤ j → j < D.1 → std n D j) (hg : GOk D (D.1 / 2)) (h : ∀ OC' O', (∀ g, 0 ≤ g → g < 10 → sb (nm D (D.1 / 2)) g = true → OC' g = col D g) → O'.1 = 0 → Q OC' O') : wp_X1_start OC O P Q := by
  have hp := hP.2.1
  have hso : SOk D (D.1 / 2) := fun k k0 k1 => by have := (hd (2 * k) (by omega) (by omega)).1 (by omega); omega
  unfold wp_X1_start
  refine s_acts hP ?_
  refine lp_inv (fun m i (OC : gOOC) => wp_X1_start_17 P (fun OC O => Q OC O) Q m (D.1 / 2) i OC (0, O.2.1, O.2.2)) (D.1 / 2) (fun i OC => 0 ≤ i ∧ ∀ g, 0 ≤ g → g < 10 → sb (nm D i) g = true → OC g = itI (clF D g) 0 i 0) ?_ ?_ 0 OC (by omega) ⟨by omega, fun g _ _ q => by rw [show nm D 0 = 0 from itI_0 (by omega), sb_0] at q; exact absurd q (by decide)⟩
  · rintro m OC ⟨i0, e⟩
    show wp_X1_start_17 P _ Q (m + 1) (D.1 / 2) (D.1 / 2) OC _
    unfold wp_X1_start_17
    exact ⟨⟨by omega, by omega⟩, ⟨by omega, by omega⟩, fun _ => h OC _ e rfl, fun q => absurd (Int.le_refl _) q⟩
  · rintro m i OC hlt ⟨i0, e⟩ ih
    have hb := hso i i0 hlt
    have hx := nm_ok i i0 (fun k k0 k1 => hso k k0 (by omega))
    have hz := (gbad_f (hg i i0 hlt)).1
    show wp_X1_start_17 P _ Q (m + 1) (D.1 / 2) i OC _
    unfold wp_X1_start_17
    refine ⟨⟨by omega, by omega⟩, ⟨by omega, by omega⟩, fun q => by omega, fun _ => s_guestOf hP i0 hlt (s_columnOf hP i0 hlt ?_)⟩
    rw [if_neg hz]
    refine s_set hb (by decide) (ih _ ⟨by omega, fun g g0 g1 hgt => ?_⟩)
    rw [itI_s i0]
    by_cases q : g = D.2 (2 * i) - 65
    · rw [q, aset_s]; exact (if_pos rfl).symm
    · rw [aset_n q]
      rw [nm_s i0, sb_or hx (S10_shl hb), sb_shl hb g0, decide_eq_false (fun w => q w.symm), Bool.or_false] at hgt
      rw [e g g0 g1 hgt]; exact (if_neg (fun w => q w.symm)).symm
def oA0 : OA := (0, fun _ => 0)
def vOrA (B : gMB) (N : gMN) (D : gMD) : OA := orA B (col D) (D.1 / 2).toNat N (nm D (D.1 / 2)) 0 (fun _ => 0) oA0
def vOrders (B : gMB) (N : gMN) (D : gMD) (w : Int) : Int := if ff B.1 D ≠ -6 then -5 else if gok D (D.1 / 2) = false then -5 else if 6 < D.1 / 2 then -4 else if w = -1 then (vOrA B N D).1 else if 0 ≤ w ∧ w < D.1 / 2 ∧ 0 < (vOrA B N D).1 then (vOrA B N D).2 w else -6
theorem p10_6 {j : Nat} (h : j ≤ 6) : 1 ≤ p10 j ∧ p10 j ≤ 1000000 := by
  have h0 := p10_pos j
  refine ⟨by omega, ?_⟩
  have : (10 : Nat) ^ j ≤ 10 ^ 6 := Nat.pow_le_pow_right (by omega) h
  unfold p10
  have e : (10 : Int) ^ j = ((10 ^ j : Nat) : Int) := by norm_cast
  rw [e]
  omega
theorem s_orders {B : gMB} {N : gMN} {D : gMD} {P : gPP} {S Sr : gWS} {T Tr : gWT} {Ur : gWU} {OC : gOOC} {O : gOO} {w : Int} {Q : Int → gWS → gWT → gWU → gOOC → gOO → Prop} (hI : Inv B N) (hS : SR B S) (hT : TR B N T) (hP : PadR P D) (rw_ : rI w) (h : ∀ S' T' U' OC' O', Q (vOrders B N D w) S' T' U' OC' O') : wp_X6_orders S T Sr Tr Ur P OC O w Q := by
  have hB := hI.1
  have hn := hB.1
  have hp := hP.2.1
  have hfr := ff_r (n := B.1) hP.2.1
  unfold wp_X6_orders vOrders at *
  refine s_firstFault hP (by rw [hS.1]; omega) ?_
  rw [hS.1]
  refine ⟨⟨by omega, by omega⟩, fun hf => ?_, fun hf => ?_⟩
  · obtain ⟨ev, hd⟩ := ff_none hp.1 hf
    rw [if_neg (fun q => q hf)] at h
    have hso : SOk D (D.1 / 2) := fun k k0 k1 => by have := (hd (2 * k) (by omega) (by omega)).1 (by omega); omega
    have hnm := nm_ok (D.1 / 2) (by omega) hso
    refine s_guestsWhoPut (n := B.1) hP hn.2 hd (fun gk => ⟨⟨by have := hnm.1; omega, by have := hnm.2; omega⟩, fun _ => ?_, fun q => absurd (by have := hnm.1; omega) q⟩) (fun gk => ⟨by decide, fun q => absurd rfl q, fun _ => ?_⟩)
    · rw [if_neg (by rw [gk]; decide)] at h
      have hg := (gok_iff _ (show 0 ≤ D.1 / 2 by omega)).mp gk
      refine s_acts hP ⟨⟨by omega, by omega⟩, fun h6 => ?_, fun h6 => ?_⟩
      · rw [if_neg (by omega)] at h
        refine s_become hS hT (fun S2 T2 hS2 hT2 => s_start hP hd hg (fun OC2 O2 hOC hO => ?_))
        obtain ⟨m, hm⟩ : ∃ m : Nat, D.1 / 2 = (m : Int) := ⟨(D.1 / 2).toNat, by omega⟩
        have hpm : popc (nm D (D.1 / 2)) = m := by rw [hm]; exact nm_popc m (by rw [← hm]; exact hso) (by rw [← hm]; exact hg)
        have em : (D.1 / 2).toNat = m := by omega
        have hp6 := p10_6 (j := m) (by omega)
        have hA := orA_r (B := B) (col := col D) (j := m) (N := N) (s := nm D (D.1 / 2)) (i := 0) (f := fun _ => 0) (a := oA0)
        have z1 : oA0.1 = 0 := rfl
        rw [show (8 : Nat) = m + 1 + (7 - m) by omega]
        refine s_arrange (col := col D) hS2 m (f := fun _ => 0) (a := oA0) hI hT2 hnm hpm (by omega) (by omega) (fun g g0 g1 q => ⟨hOC g g0 g1 q, col_r hn.2 hp.1 hg hd⟩) (by omega) (by omega) ⟨hO.trans z1.symm, fun k k0 k1 => by omega, fun q => absurd z1 q⟩ (fun T3 U3 O3 hT3 hO3 => ?_)
        unfold vOrA at h
        rw [em] at h
        obtain ⟨f1, _, f3⟩ := hO3
        have f3 : (orA B (col D) m N (nm D (D.1 / 2)) 0 (fun _ => 0) oA0).1 ≠ 0 → ∀ k, 0 ≤ k → k < 0 + (m : Int) → O3.2.2 k = (orA B (col D) m N (nm D (D.1 / 2)) 0 (fun _ => 0) oA0).2 k := f3
        generalize orA B (col D) m N (nm D (D.1 / 2)) 0 (fun _ => 0) oA0 = A at *
        have no : ¬ w = -1 → ¬ (0 ≤ w ∧ w < D.1 / 2 ∧ 0 < A.1) → wp_X6_orders_125 Q w 0 S2 T3 U3 OC2 O3 := fun y q => by
          rw [if_neg y, if_neg q] at h
          unfold wp_X6_orders_125
          exact ⟨by decide, fun _ => h _ _ _ _ _, fun q => absurd rfl q⟩
        refine ⟨rw_, fun y => ⟨fun a => no y (fun q => by omega), fun a => ⟨fun b => no y (fun q => by omega), fun b => ⟨⟨by omega, by omega⟩, fun c => no y (fun q => by omega), fun c => ?_⟩⟩⟩, fun y => ?_⟩
        · rw [if_neg y, if_pos (show 0 ≤ w ∧ w < D.1 / 2 ∧ 0 < A.1 from ⟨by omega, by omega, by omega⟩)] at h
          unfold wp_X6_orders_125
          refine ⟨by decide, fun q => absurd q (by decide), fun _ => s_at ⟨by omega, by omega⟩ (by decide) ?_⟩
          rw [f3 (by omega) w (by omega) (by omega)]; exact h _ _ _ _ _
        · rw [if_pos (Decidable.of_not_not y)] at h
          rw [f1]; exact h _ _ _ _ _
      · rw [if_pos (by omega)] at h; exact h _ _ _ _ _
    · rw [if_pos gk] at h; exact h _ _ _ _ _
  · rw [if_pos hf] at h; exact h _ _ _ _ _
