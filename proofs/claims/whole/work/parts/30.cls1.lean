/-! THE CLASS'S WALL holds the abstract wall: S = (columns, given, wide, weight, bears), T = (laid, row, column, cell, top) -/
def cv (B : gMB) (N : gMN) (r c : Int) : Int := if 0 ≤ who B N r c then who B N r c + 1 else 0
theorem cv_r {B : gMB} {N : gMN} {r c : Int} : 0 ≤ cv B N r c ∧ cv B N r c ≤ 10 := by
  have := @who_rng B N r c
  unfold cv; split <;> omega
theorem cv_z {B : gMB} {N : gMN} {r c : Int} : cv B N r c = 0 ↔ who B N r c < 0 := by
  unfold cv; split <;> omega
def SR (B : gMB) (S : gWS) : Prop := S.1 = B.1 ∧ S.2.1 = B.2.1 ∧ ∀ g, 0 ≤ g → g < 10 → S.2.2.1 g = B.2.2.1 g ∧ S.2.2.2.1 g = B.2.2.2.1 g ∧ S.2.2.2.2 g = B.2.2.2.2 g
def TR (B : gMB) (N : gMN) (T : gWT) : Prop := (S10 T.1 ∧ ∀ g, 0 ≤ g → g < 10 → sb T.1 g = decide (0 ≤ N.1 g)) ∧ (∀ g, 0 ≤ g → g < 10 → 0 ≤ N.1 g → T.2.1 g = N.1 g ∧ T.2.2.1 g = N.2 g) ∧ (∀ r c, 0 ≤ r → r < 10 → 0 ≤ c → c < 9 → T.2.2.2.1 (r * 9 + c) = cv B N r c) ∧ (∀ c, 0 ≤ c → c < 9 → T.2.2.2.2 c = hgt B N c)
theorem s_at {n i : Int} {f : Int → Int} {Q : Int → Prop} (hi : 0 ≤ i ∧ i < n) (hn : n ≤ 1000) (h : Q (f i)) : wp_X6_at n f i Q := by
  unfold wp_X6_at
  exact ⟨⟨by omega, by omega⟩, fun a => by omega, fun _ => ⟨fun a => by omega, fun _ => ⟨hi, h⟩⟩⟩
theorem s_at_out {n i : Int} {f : Int → Int} {Q : Int → Prop} (hr : rI i) (hi : ¬ (0 ≤ i ∧ i < n)) (h : Q 0) : wp_X6_at n f i Q := by
  unfold wp_X6_at
  exact ⟨hr, fun _ => h, fun a => ⟨fun _ => h, fun b => absurd ⟨by omega, by omega⟩ hi⟩⟩
theorem s_atL {n i : Int} {f : Int → Int} {Q : Int → Prop} (hi : 0 ≤ i ∧ i < n) (hn : n ≤ 1000) (h : Q (f i)) : wp_X6_at_ n f i Q := by
  unfold wp_X6_at_
  exact ⟨⟨by omega, by omega⟩, fun a => by omega, fun _ => ⟨fun a => by omega, fun _ => ⟨hi, h⟩⟩⟩
theorem s_set {n i v : Int} {f : Int → Int} {Q : (Int → Int) → Prop} (hi : 0 ≤ i ∧ i < n) (hn : n ≤ 1000) (h : Q (aset f i v)) : wp_X6_set n f i v Q := by
  unfold wp_X6_set
  exact ⟨⟨by omega, by omega⟩, fun a => by omega, fun _ => ⟨fun a => by omega, fun _ => ⟨hi, h⟩⟩⟩
theorem s_hasBit {s g : Int} {Q : Int → Prop} (hs : S10 s) (hg : rI g) (h1 : 0 ≤ g → g < 10 → sb s g = true → Q 1) (h0 : ¬ (0 ≤ g ∧ g < 10 ∧ sb s g = true) → Q 0) : wp_X6_hasBit s g Q := by
  unfold wp_X6_hasBit
  refine ⟨hg, fun a => h0 (fun q => by omega), fun a => ⟨fun b => h0 (fun q => by omega), fun b => ?_⟩⟩
  rw [has10 hs ⟨by omega, by omega⟩]
  cases hb : sb s g
  · exact ⟨by decide, fun _ => h0 (fun q => by rw [hb] at q; exact absurd q.2.2 (by decide)), fun h => absurd (by decide) h⟩
  · exact ⟨by decide, fun h => absurd rfl h, fun _ => h1 (by omega) (by omega) hb⟩
theorem s_isLaid {B : gMB} {N : gMN} {T : gWT} {g : Int} {Q : Int → Prop} (hT : TR B N T) (g0 : 0 ≤ g) (g1 : g < 10) (h1 : 0 ≤ N.1 g → Q 1) (h0 : N.1 g < 0 → Q 0) : wp_X5_isLaid T g Q := by
  unfold wp_X5_isLaid
  refine s_hasBit hT.1.1 ⟨by omega, by omega⟩ (fun _ _ a => h1 ?_) (fun a => h0 ?_)
  · rw [hT.1.2 g g0 g1] at a; exact of_decide_eq_true a
  · refine Decidable.byContradiction fun q => a ⟨g0, g1, ?_⟩
    rw [hT.1.2 g g0 g1]; exact decide_eq_true (by omega)
theorem s_isFree {B : gMB} {N : gMN} {S : gWS} {T : gWT} {g : Int} {Q : Int → Prop} (hB : BOk B) (hS : SR B S) (hT : TR B N T) (g0 : 0 ≤ g) (g1 : g < 10) (h1 : sb B.2.1 g = true → N.1 g < 0 → Q 1) (h0 : sb B.2.1 g = false ∨ 0 ≤ N.1 g → Q 0) : wp_X5_isFree S T g Q := by
  unfold wp_X5_isFree wp_X5_freeGuests
  have hs : S10 S.2.1 := by rw [hS.2.1]; exact hB.2.1
  have e : sb (iand S.2.1 (ixor T.1 (-1))) g = (sb B.2.1 g && !decide (0 ≤ N.1 g)) := by rw [sb_andn hs hT.1.1, hT.1.2 g g0 g1, hS.2.1]
  refine s_hasBit (S10_andn hs hT.1.1) ⟨by omega, by omega⟩ (fun _ _ a => ?_) (fun a => h0 ?_)
  · rw [e, Bool.and_eq_true, Bool.not_eq_true', decide_eq_false_iff_not] at a
    exact h1 a.1 (by omega)
  · refine Decidable.byContradiction fun q => a ⟨g0, g1, ?_⟩
    rw [e, Bool.and_eq_true, Bool.not_eq_true', decide_eq_false_iff_not]
    refine ⟨?_, fun z => q (Or.inr z)⟩
    cases hb : sb B.2.1 g
    · exact absurd (Or.inl hb) q
    · rfl
/-- cells of a column from c on, that are held: row r -/
def hcF (B : gMB) (N : gMN) (r : Int) : Int → Int → Int := fun k a => if r = 0 ∨ 0 ≤ who B N (r - 1) k then a + 1 else a
theorem hld_hc {B : gMB} {N : gMN} {g r c : Int} : hld B (mset N g r c) g = itI (hcF B (mset N g r c) r) c (c + B.2.2.1 g) 0 := by
  unfold hld
  rw [mset_s2]
  refine itI_congr (fun k a _ _ => ?_)
  unfold hldF hcF
  rw [mset_s1]
theorem hc_shift {f : Int → Int → Int} {w c : Int} {s : Int} (hw : 0 ≤ w) : itI f c (c + w) s = itI (fun i a => f (c + i) a) 0 w s := by
  have := itI_ind (f := fun i a => f (c + i) a) (s := s) (P := fun i a => a = itI f c (c + i) s) (lo := 0) (hi := w) hw (itI_0 (by omega)).symm (fun i a h1 h2 e => by
    rw [e, show c + (i + 1) = (c + i) + 1 by omega, itI_s (by omega)])
  exact this.symm
theorem s_heldCells {B : gMB} {N : gMN} {T : gWT} {r c w : Int} {Q : Int → Prop} (hT : TR B N T) (hr : 0 ≤ r ∧ r ≤ 10) (hc : 0 ≤ c) (hw : 0 ≤ w) (hcw : c + w ≤ 9) (h : Q (itI (hcF B N r) c (c + w) 0)) : wp_X5_heldCells T r c w Q := by
  unfold wp_X5_heldCells
  refine ⟨⟨by omega, by omega⟩, fun a => ?_, fun a => ?_⟩
  · rw [hc_shift hw] at h
    refine lp_inv (fun m i (f : Int) => wp_X5_heldCells_22 T (fun x4 => Q x4) Q m w f ((r - 1) * 9 + c) i) w (fun i f => 0 ≤ i ∧ f = itI (fun i a => hcF B N r (c + i) a) 0 i 0) ?_ ?_ 0 0 (by omega) ⟨by omega, (itI_0 (by omega)).symm⟩
    · rintro m f ⟨hi, rfl⟩
      show wp_X5_heldCells_22 _ _ _ (m + 1) _ _ _ _
      unfold wp_X5_heldCells_22
      exact ⟨⟨by omega, by omega⟩, ⟨by omega, by omega⟩, fun _ => h, fun q => absurd (Int.le_refl _) q⟩
    · rintro m i f hlt ⟨hi, rfl⟩ ih
      show wp_X5_heldCells_22 _ _ _ (m + 1) _ _ _ _
      unfold wp_X5_heldCells_22
      have e : (r - 1) * 9 + c + i = (r - 1) * 9 + (c + i) := by omega
      have hv : T.2.2.2.1 ((r - 1) * 9 + c + i) = cv B N (r - 1) (c + i) := by rw [e]; exact hT.2.2.1 (r - 1) (c + i) (by omega) (by omega) (by omega) (by omega)
      have h1 := @cv_r B N (r - 1) (c + i)
      refine ⟨⟨by omega, by omega⟩, ⟨by omega, by omega⟩, fun q => by omega, fun _ => ⟨⟨by omega, by omega⟩, fun q => by omega, fun _ => ⟨fun q => by omega, fun _ => ⟨⟨by omega, by omega⟩, ?_⟩⟩⟩⟩
      rw [hv]
      refine ⟨⟨by omega, by omega⟩, fun z => ?_, fun z => ?_⟩
      · refine ih _ ⟨by omega, ?_⟩
        rw [itI_s hi]
        have := cv_z.mp z
        exact (if_neg (by omega)).symm
      · refine ih _ ⟨by omega, ?_⟩
        rw [itI_s hi]
        exact (if_pos (Or.inr (by refine Decidable.byContradiction fun q => z (cv_z.mpr (by omega))))).symm
  · have a := Decidable.of_not_not a
    subst a
    have e : itI (hcF B N 0) c (c + w) 0 = w := by
      have := itI_ind (f := hcF B N 0) (s := 0) (P := fun k a => a = k - c) (lo := c) (hi := c + w) (by omega) (by omega) (fun k a h1 h2 e => by
        unfold hcF
        rw [if_pos (Or.inl rfl)]; omega)
      omega
    rw [e] at h
    exact h
theorem s_rowOnTop {B : gMB} {N : gMN} {T : gWT} {g c w : Int} {Q : Int → Prop} (hR : NR B N) (hT : TR B N T) (hc : 0 ≤ c) (hw : w = B.2.2.1 g) (hw0 : 0 ≤ w) (hcw : c + w ≤ 9) (h : Q (prow B N g c)) : wp_X5_rowOnTop T c w Q := by
  unfold wp_X5_rowOnTop
  subst hw
  have h : Q (itI (fun i a => rowF B N (c + i) a) 0 (B.2.2.1 g) 0) := by rw [← hc_shift hw0]; exact h
  have rg : ∀ i, 0 ≤ i → 0 ≤ itI (fun i a => rowF B N (c + i) a) 0 i 0 ∧ itI (fun i a => rowF B N (c + i) a) 0 i 0 ≤ 11 := fun i hi => itI_ind (P := fun _ a => 0 ≤ a ∧ a ≤ 11) hi ⟨by omega, by omega⟩ (fun k a _ _ h3 => by
    have := hgt_r (c := c + k) hR
    unfold rowF; split <;> omega)
  refine lp_inv (fun m i (f : Int) => wp_X5_rowOnTop_5 T (fun x3 => Q x3) Q m c (B.2.2.1 g) f i) (B.2.2.1 g) (fun i f => 0 ≤ i ∧ f = itI (fun i a => rowF B N (c + i) a) 0 i 0) ?_ ?_ 0 0 (by omega) ⟨by omega, (itI_0 (by omega)).symm⟩
  · rintro m f ⟨hi, rfl⟩
    show wp_X5_rowOnTop_5 _ _ _ (m + 1) _ _ _ _
    unfold wp_X5_rowOnTop_5
    exact ⟨⟨by omega, by omega⟩, ⟨by omega, by omega⟩, fun _ => h, fun q => absurd (Int.le_refl _) q⟩
  · rintro m i f hlt ⟨hi, rfl⟩ ih
    have h1 := rg i hi
    have h2 := hgt_r (c := c + i) hR
    show wp_X5_rowOnTop_5 _ _ _ (m + 1) _ _ _ _
    unfold wp_X5_rowOnTop_5
    refine ⟨⟨by omega, by omega⟩, ⟨by omega, by omega⟩, fun q => by omega, fun _ => s_at ⟨by omega, by omega⟩ (by omega) ?_⟩
    rw [hT.2.2.2 (c + i) (by omega) (by omega)]
    refine ⟨⟨by omega, by omega⟩, ⟨by omega, by omega⟩, ih _ ⟨by omega, ?_⟩⟩
    rw [itI_s hi]
    show _ = rowF B N (c + i) _
    unfold rowF
    split <;> omega
