/-! year -/
abbrev YS : Type := Int × Int × Int × Int × gMN
def ynX (x : Int) : Int := ((75 * x) + 74).tmod 65537
def ynP (B : gMB) (N : gMN) (x : Int) : Int × gMN := mput B N (x.tmod 10) ((x.tdiv 10).tmod B.1)
def ynT (B : gMB) (N : gMN) (x : Int) : Int × gMN := mtake B N (x.tmod 10)
def ynN (B : gMB) (N : gMN) (x : Int) : gMN := if (ynP B N x).1 = 0 then (ynP B N x).2 else (ynT B N x).2
def ynH (B : gMB) (N : gMN) (t : Int) : Int := if hst B N ≤ t then t else hst B N
def ynF (B : gMB) : Int → YS → YS := fun _ s => (ynX s.1, (if (ynP B s.2.2.2.2 (ynX s.1)).1 = 0 then s.2.1 + 1 else s.2.1), (if (ynP B s.2.2.2.2 (ynX s.1)).1 ≠ 0 ∧ (ynT B s.2.2.2.2 (ynX s.1)).1 = 0 then s.2.2.1 + 1 else s.2.2.1), ynH B (ynN B s.2.2.2.2 (ynX s.1)) s.2.2.2.1, ynN B s.2.2.2.2 (ynX s.1))
def vYear (B : gMB) (N : gMN) (seed m what : Int) : Int := if ¬ (0 ≤ seed ∧ seed ≤ 9999) then -2 else if ¬ (1 ≤ m ∧ m ≤ 99) then -2 else if ¬ (0 ≤ what ∧ what ≤ 2) then -2 else if what = 0 then (itI (ynF B) 0 m (seed, 0, 0, 0, N)).2.1 else if what = 1 then (itI (ynF B) 0 m (seed, 0, 0, 0, N)).2.2.1 else (itI (ynF B) 0 m (seed, 0, 0, 0, N)).2.2.2.1
def YOk (B : gMB) (k : Int) (s : YS) : Prop := (0 ≤ s.1 ∧ s.1 ≤ 65536) ∧ (0 ≤ s.2.1 ∧ s.2.1 ≤ k) ∧ (0 ≤ s.2.2.1 ∧ s.2.2.1 ≤ k) ∧ (0 ≤ s.2.2.2.1 ∧ s.2.2.2.1 ≤ 10) ∧ Inv B s.2.2.2.2
theorem ynX_r {x : Int} (h : 0 ≤ x ∧ x ≤ 65536) : (0 ≤ ynX x ∧ ynX x ≤ 65536) ∧ rI (75 * x + 74) := by
  unfold ynX rI
  rw [Int.tmod_eq_emod_of_nonneg (by omega)]
  omega
theorem ynX_g {B : gMB} (hB : BOk B) {x : Int} (h : 0 ≤ x ∧ x ≤ 65536) : (0 ≤ x.tmod 10 ∧ x.tmod 10 < 10) ∧ (0 ≤ x.tdiv 10 ∧ x.tdiv 10 ≤ 6554) ∧ (0 ≤ (x.tdiv 10).tmod B.1 ∧ (x.tdiv 10).tmod B.1 ≤ 9) := by
  have := hB.1
  have h1 : 0 ≤ x.tdiv 10 ∧ x.tdiv 10 ≤ 6554 := by rw [Int.tdiv_eq_ediv_of_nonneg h.1]; omega
  refine ⟨?_, h1, ?_⟩
  · rw [Int.tmod_eq_emod_of_nonneg h.1]; omega
  · rw [Int.tmod_eq_emod_of_nonneg h1.1]
    have a := Int.emod_nonneg (x.tdiv 10) (show B.1 ≠ 0 by omega)
    have b := Int.emod_lt_of_pos (x.tdiv 10) (show 0 < B.1 by omega)
    omega
theorem ynN_I {B : gMB} {N : gMN} {x : Int} (hI : Inv B N) (h : 0 ≤ x ∧ x ≤ 65536) : Inv B (ynN B N x) := by
  obtain ⟨a, b, c⟩ := ynX_g hI.1 h
  unfold ynN
  split
  · exact inv_put hI a.1 a.2 c.1
  · exact inv_take hI a.1 a.2
theorem ynF_ok {B : gMB} {k : Int} {s : YS} (h : YOk B k s) : YOk B (k + 1) (ynF B k s) := by
  obtain ⟨h1, h2, h3, h4, h5⟩ := h
  have hx := (ynX_r h1).1
  have hI := ynN_I h5 hx
  have hh := hst_10 hI.1 hI.2.1
  refine ⟨hx, ?_, ?_, ?_, hI⟩
  · dsimp only [ynF]; split <;> omega
  · dsimp only [ynF]; split <;> omega
  · dsimp only [ynF, ynH]; split <;> omega
theorem yn_ok {B : gMB} {N : gMN} {s : Int} (hI : Inv B N) (hs : 0 ≤ s ∧ s ≤ 9999) (i : Int) (h0 : 0 ≤ i) : YOk B i (itI (ynF B) 0 i (s, 0, 0, 0, N)) := itI_ind (P := fun k (s : YS) => YOk B k s) h0 ⟨by dsimp only; omega, by simp, by simp, by simp, hI⟩ (fun _ _ _ _ h => ynF_ok h)
theorem s_year {B : gMB} {N : gMN} {S Sr : gWS} {T Tr : gWT} {Ur : gWU} {x m w : Int} {Q : Int → gWS → gWT → gWU → Prop} (hI : Inv B N) (hS : SR B S) (hT : TR B N T) (rx : rI x) (rm : rI m) (rw_ : rI w) (h : ∀ S' T' U', Q (vYear B N x m w) S' T' U') : wp_X6_year S T Sr Tr Ur x m w Q := by
  have hB := hI.1
  have hn := hB.1
  unfold wp_X6_year vYear at *
  refine s_isOutside rx (by decide) (by decide) (fun a0 a1 => ⟨fun q => absurd rfl q, fun _ => ?_⟩) (fun z => ⟨fun _ => ?_, fun q => absurd (by decide) q⟩)
  · rw [if_neg (fun q => q ⟨a0, a1⟩)] at h
    refine s_isOutside rm (by decide) (by decide) (fun b0 b1 => ⟨fun q => absurd rfl q, fun _ => ?_⟩) (fun z => ⟨fun _ => ?_, fun q => absurd (by decide) q⟩)
    · rw [if_neg (fun q => q ⟨b0, b1⟩)] at h
      refine s_isOutside rw_ (by decide) (by decide) (fun c0 c1 => ⟨fun _ => ?_, fun q => absurd rfl q⟩) (fun z => ⟨fun q => absurd q (by decide), fun _ => ?_⟩)
      · rw [if_neg (fun q => q ⟨c0, c1⟩)] at h
        refine s_become hS hT (fun S2 T2 hS2 hT2 => ?_)
        have hok := yn_ok hI ⟨a0, a1⟩
        refine lp_inv (fun n k (s : YS × gWT × gWU) => wp_X6_year_59 _ Q n m w s.1.1 s.1.2.1 s.1.2.2.1 s.1.2.2.2.1 k S2 s.2.1 s.2.2) m (fun k s => 0 ≤ k ∧ TR B s.1.2.2.2.2 s.2.1 ∧ s.1 = itI (ynF B) 0 k (x, 0, 0, 0, N)) ?_ ?_ 0 ((x, 0, 0, 0, N), T2, Ur) (by omega) ⟨by omega, hT2, (itI_0 (by omega)).symm⟩
        · rintro n ⟨s, T3, U3⟩ ⟨k0, hT3, e⟩
          show wp_X6_year_59 _ Q (n + 1) m w s.1 s.2.1 s.2.2.1 s.2.2.2.1 m S2 T3 U3
          unfold wp_X6_year_59
          dsimp only at e
          rw [← e] at h
          refine ⟨rm, rm, fun _ => ⟨rw_, fun y => ⟨fun z => ?_, fun z => ?_⟩, fun y => ?_⟩, fun q => absurd (Int.le_refl _) q⟩
          · rw [if_neg y, if_neg z] at h; exact h _ _ _
          · rw [if_neg y, if_pos (Decidable.of_not_not z)] at h; exact h _ _ _
          · rw [if_pos (Decidable.of_not_not y)] at h; exact h _ _ _
        · rintro n k ⟨s, T3, U3⟩ hlt ⟨k0, hT3, e⟩ ih
          dsimp only at hT3 e
          have hs := hok k k0
          rw [← e] at hs
          obtain ⟨h1, h2, h3, h4, h5⟩ := hs
          obtain ⟨hx, hx2⟩ := ynX_r h1
          obtain ⟨g1, g2, g3⟩ := ynX_g hB hx
          have next : itI (ynF B) 0 (k + 1) (x, 0, 0, 0, N) = ynF B k s := by rw [itI_s k0, ← e]
          show wp_X6_year_59 _ Q (n + 1) m w s.1 s.2.1 s.2.2.1 s.2.2.2.1 k S2 T3 U3
          unfold wp_X6_year_59 wp_X6_leftOver
          have fin : ∀ p t T5 U5, TR B (ynN B s.2.2.2.2 (ynX s.1)) T5 → (ynF B k s) = (ynX s.1, p, t, ynH B (ynN B s.2.2.2.2 (ynX s.1)) s.2.2.2.1, ynN B s.2.2.2.2 (ynX s.1)) → wp_X6_year_133 (fun (x2 : Int) (x3 : Int) (x4 : Int) (x5 : Int) (x6 : Int) (x7 : Int) (x8 : Int) (S_r : gWS) (T_r : gWT) (U_r : gWU) => wp_X6_year_59 (fun (x3 : Int) (x5 : Int) (x6 : Int) (x7 : Int) (S_r : gWS) (T_r : gWT) (U_r : gWU) => rI x3 ∧ ((¬ x3 = 0 → ((¬ x3 = 1 → Q x7 S_r T_r U_r) ∧ (¬ (¬ x3 = 1) → Q x6 S_r T_r U_r))) ∧ (¬ (¬ x3 = 0) → Q x5 S_r T_r U_r))) Q n x2 x3 x4 x5 x6 x7 x8 S_r T_r U_r) Q m w (ynX s.1) p t s.2.2.2.1 k S2 T5 U5 := fun p t T5 U5 hT5 ef => by
            have hI5 := ynN_I h5 hx
            have hh := hst_10 hB hI5.2.1
            unfold wp_X6_year_133
            refine s_tallest hB hI5.2.1 hT5 ⟨⟨by omega, by omega⟩, ⟨by omega, by omega⟩, ?_⟩
            have em : max s.2.2.2.1 (hst B (ynN B s.2.2.2.2 (ynX s.1))) = ynH B (ynN B s.2.2.2.2 (ynX s.1)) s.2.2.2.1 := by unfold ynH; split <;> omega
            rw [em]
            refine ih ((ynX s.1, p, t, ynH B (ynN B s.2.2.2.2 (ynX s.1)) s.2.2.2.1, ynN B s.2.2.2.2 (ynX s.1)), T5, U5) ⟨by omega, hT5, ?_⟩
            rw [next]; exact ef.symm
          rw [hS2.1]
          refine ⟨⟨by omega, by omega⟩, rm, fun q => by omega, fun _ => ⟨hx2, (show rI (ynX s.1) from ⟨by omega, by omega⟩), ⟨by omega, by omega⟩, fun q => by omega, fun _ => ⟨by omega, (show rI ((ynX s.1).tdiv 10) from ⟨by omega, by omega⟩), ?_⟩⟩⟩
          refine s_put h5 hS2 hT3 g1.1 g1.2 ⟨g3.1, Int.le_trans g3.2 (by decide)⟩ (fun T4 U4 hT4 => ⟨?_, fun z => ?_, fun z => ?_⟩)
          · have := mput_r B s.2.2.2.2 ((ynX s.1).tmod 10) (((ynX s.1).tdiv 10).tmod B.1)
            exact ⟨by unfold ynX at this; omega, by unfold ynX at this; omega⟩
          · have z : (ynP B s.2.2.2.2 (ynX s.1)).1 ≠ 0 := z
            have hT4 : TR B s.2.2.2.2 T4 := (congrArg (fun t : gMN => TR B t T4) (mput_n z)).mp hT4
            refine s_take h5 hS2 hT4 g1.1 g1.2 (fun T5 hT5 => ⟨?_, fun y => ?_, fun y => ?_⟩)
            · have := mtake_r B s.2.2.2.2 ((ynX s.1).tmod 10)
              exact ⟨by unfold ynX at this; omega, by unfold ynX at this; omega⟩
            · have y : (ynT B s.2.2.2.2 (ynX s.1)).1 ≠ 0 := y
              refine fin _ _ _ _ ?_ ?_
              · unfold ynN; rw [if_neg z]; exact hT5
              · unfold ynF; rw [if_neg z, if_neg (fun q => y q.2)]
            · have y : (ynT B s.2.2.2.2 (ynX s.1)).1 = 0 := Decidable.of_not_not y
              refine fin _ _ _ _ ?_ ?_
              · unfold ynN; rw [if_neg z]; exact hT5
              · unfold ynF; rw [if_neg z, if_pos ⟨z, y⟩]
          · have z : (ynP B s.2.2.2.2 (ynX s.1)).1 = 0 := Decidable.of_not_not z
            refine fin _ _ _ _ ?_ ?_
            · unfold ynN; rw [if_pos z]; exact hT4
            · unfold ynF; rw [if_pos z, if_neg (fun q => q.1 z)]
      · rw [if_pos z] at h; exact h _ _ _
    · rw [if_pos z] at h; exact h _ _ _
  · rw [if_pos z] at h; exact h _ _ _
theorem s_X7_year {B : gMB} {P : gMP} {N : gMN} {L : gML} {x m w : Int} {Q : Int → gMN → gML → Prop} (hI : Inv B P) (hN : Scr N L) (rx : rI x) (rm : rI m) (rw_ : rI w) (h : ∀ N' L', Scr N' L' → Q (vYear B P x m w) N' L') : wp_X7_year B P N L x m w Q := by
  have hB := hI.1
  have hn := hB.1
  unfold wp_X7_year vYear at *
  refine s_X7_in rx (by decide) (by decide) (fun a0 a1 => ⟨fun q => absurd q (by decide), fun _ => ?_⟩) (fun z => ⟨fun _ => ?_, fun q => absurd rfl q⟩)
  · rw [if_neg (fun q => q ⟨a0, a1⟩)] at h
    refine s_X7_in rm (by decide) (by decide) (fun b0 b1 => ⟨fun q => absurd q (by decide), fun _ => ?_⟩) (fun z => ⟨fun _ => ?_, fun q => absurd rfl q⟩)
    · rw [if_neg (fun q => q ⟨b0, b1⟩)] at h
      refine s_X7_in rw_ (by decide) (by decide) (fun c0 c1 => ⟨fun _ => ?_, fun q => absurd (by decide) q⟩) (fun z => ⟨fun q => absurd rfl q, fun _ => ?_⟩)
      · rw [if_neg (fun q => q ⟨c0, c1⟩)] at h
        refine s_X7_asNow hI.2.1.1 hN.1 ?_
        have hok := yn_ok hI ⟨a0, a1⟩
        refine lp_inv (fun n k (s : YS × gML) => wp_X7_year_52 B _ Q n m w s.1.1 s.1.2.1 s.1.2.2.1 s.1.2.2.2.1 k s.1.2.2.2.2 s.2) m (fun k s => 0 ≤ k ∧ Z10 s.2 ∧ s.1 = itI (ynF B) 0 k (x, 0, 0, 0, P)) ?_ ?_ 0 ((x, 0, 0, 0, P), L) (by omega) ⟨by omega, hN.2, (itI_0 (by omega)).symm⟩
        · rintro n ⟨s, L3⟩ ⟨k0, hL3, e⟩
          show wp_X7_year_52 B _ Q (n + 1) m w s.1 s.2.1 s.2.2.1 s.2.2.2.1 m s.2.2.2.2 L3
          unfold wp_X7_year_52
          dsimp only at e
          have hs := hok m k0
          rw [← e] at h hs
          have hsc : Scr s.2.2.2.2 L3 := ⟨hs.2.2.2.2.2.1.1, hL3⟩
          refine ⟨rm, rm, fun _ => ⟨rw_, fun y => ⟨fun z => ?_, fun z => ?_⟩, fun y => ?_⟩, fun q => absurd (Int.le_refl _) q⟩
          · rw [if_neg y, if_neg z] at h; exact h _ _ hsc
          · rw [if_neg y, if_pos (Decidable.of_not_not z)] at h; exact h _ _ hsc
          · rw [if_pos (Decidable.of_not_not y)] at h; exact h _ _ hsc
        · rintro n k ⟨s, L3⟩ hlt ⟨k0, hL3, e⟩ ih
          dsimp only at hL3 e
          have hs := hok k k0
          rw [← e] at hs
          obtain ⟨h1, h2, h3, h4, h5⟩ := hs
          obtain ⟨hx, hx2⟩ := ynX_r h1
          obtain ⟨g1, g2, g3⟩ := ynX_g hB hx
          have next : itI (ynF B) 0 (k + 1) (x, 0, 0, 0, P) = ynF B k s := by rw [itI_s k0, ← e]
          show wp_X7_year_52 B _ Q (n + 1) m w s.1 s.2.1 s.2.2.1 s.2.2.2.1 k s.2.2.2.2 L3
          unfold wp_X7_year_52
          have fin : ∀ p t L5, Z10 L5 → (ynF B k s) = (ynX s.1, p, t, ynH B (ynN B s.2.2.2.2 (ynX s.1)) s.2.2.2.1, ynN B s.2.2.2.2 (ynX s.1)) → wp_X7_year_121 B (fun (x2 : Int) (x3 : Int) (x4 : Int) (x5 : Int) (x6 : Int) (x7 : Int) (x8 : Int) (N_h : gMN) (L_h : gML) => wp_X7_year_52 B (fun (x3 : Int) (x5 : Int) (x6 : Int) (x7 : Int) (N_h : gMN) (L_h : gML) => rI x3 ∧ ((¬ x3 = 0 → ((¬ x3 = 1 → Q x7 N_h L_h) ∧ (¬ (¬ x3 = 1) → Q x6 N_h L_h))) ∧ (¬ (¬ x3 = 0) → Q x5 N_h L_h))) Q n x2 x3 x4 x5 x6 x7 x8 N_h L_h) Q m w (ynX s.1) p t s.2.2.2.1 k (ynN B s.2.2.2.2 (ynX s.1)) L5 := fun p t L5 hL5 ef => by
            have hI5 := ynN_I h5 hx
            have hh := hst_10 hB hI5.2.1
            unfold wp_X7_year_121
            refine s_X7_highest hB (hI5.2.1.nr hB) ⟨⟨by omega, by omega⟩, ⟨by omega, by omega⟩, fun y => ?_, fun y => s_X7_highest hB (hI5.2.1.nr hB) ?_⟩
            · refine ih ((ynX s.1, p, t, s.2.2.2.1, ynN B s.2.2.2.2 (ynX s.1)), L5) ⟨by omega, hL5, ?_⟩
              rw [next, ef]; unfold ynH; rw [if_pos y]
            · refine ih ((ynX s.1, p, t, hst B (ynN B s.2.2.2.2 (ynX s.1)), ynN B s.2.2.2.2 (ynX s.1)), L5) ⟨by omega, hL5, ?_⟩
              rw [next, ef]; unfold ynH; rw [if_neg y]
          refine ⟨⟨by omega, by omega⟩, rm, fun q => by omega, fun _ => ⟨hx2, (show rI (ynX s.1) from ⟨by omega, by omega⟩), by omega, (show rI ((ynX s.1).tdiv 10) from ⟨by omega, by omega⟩), ⟨by omega, by omega⟩, ?_⟩⟩
          refine s_X7_put h5 hL3 g1.1 g1.2 ⟨g3.1, Int.le_trans g3.2 (by decide)⟩ (fun L4 hL4 => ⟨?_, fun z => ?_, fun z => ?_⟩)
          · have := mput_r B s.2.2.2.2 ((ynX s.1).tmod 10) (((ynX s.1).tdiv 10).tmod B.1)
            exact ⟨by unfold ynX at this; omega, by unfold ynX at this; omega⟩
          · have z : (ynP B s.2.2.2.2 (ynX s.1)).1 ≠ 0 := z
            have eN : (mput B s.2.2.2.2 ((ynX s.1).tmod 10) (((ynX s.1).tdiv 10).tmod B.1)).2 = s.2.2.2.2 := mput_n z
            unfold ynX at eN
            rw [eN]
            refine s_X7_whyNotTake hB (h5.2.1.nr hB) g1.1 g1.2 ⟨?_, fun y => ?_, fun y => ?_⟩
            · have := mtake_r B s.2.2.2.2 ((ynX s.1).tmod 10)
              exact ⟨by unfold ynX at this; omega, by unfold ynX at this; omega⟩
            · have y : (ynT B s.2.2.2.2 (ynX s.1)).1 ≠ 0 := y
              have e5 : ynN B s.2.2.2.2 (ynX s.1) = s.2.2.2.2 := by unfold ynN; rw [if_neg z]; exact mtake_n y
              have := fin s.2.1 s.2.2.1 L4 hL4 (by unfold ynF; rw [if_neg z, if_neg (fun q => y q.2)])
              rw [e5] at this
              exact this
            · have y : (ynT B s.2.2.2.2 (ynX s.1)).1 = 0 := Decidable.of_not_not y
              have e5 : ynN B s.2.2.2.2 (ynX s.1) = mset s.2.2.2.2 ((ynX s.1).tmod 10) (-6) (-6) := by unfold ynN; rw [if_neg z]; exact mtake_0 y
              have := fin s.2.1 (s.2.2.1 + 1) L4 hL4 (by unfold ynF; rw [if_neg z, if_pos ⟨z, y⟩])
              rw [e5] at this
              exact s_X7_take g1 this
          · have z : (ynP B s.2.2.2.2 (ynX s.1)).1 = 0 := Decidable.of_not_not z
            have e5 : ynN B s.2.2.2.2 (ynX s.1) = (ynP B s.2.2.2.2 (ynX s.1)).2 := by unfold ynN; rw [if_pos z]
            have := fin (s.2.1 + 1) s.2.2.1 L4 hL4 (by unfold ynF; rw [if_pos z, if_neg (fun q => q.1 z)])
            rw [e5] at this
            exact this
      · rw [if_pos z] at h; exact h _ _ hN
    · rw [if_pos z] at h; exact h _ _ hN
  · rw [if_pos z] at h; exact h _ _ hN
