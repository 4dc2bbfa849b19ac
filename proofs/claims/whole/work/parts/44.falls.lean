/-! falls, key: what holds of a wall that comes down -/
def FI (B : gMB) (N : gMN) : Prop := BOk B ∧ NOk B N ∧ Dj B N
theorem Inv.fi {B : gMB} {N : gMN} (h : Inv B N) : FI B N := ⟨h.1, h.2.1, h.2.2.1⟩
theorem FI_out {B : gMB} {N : gMN} {x : Int} (h : FI B N) (x0 : 0 ≤ x) (x1 : x < 10) : FI B (mset N x (-6) (-6)) := by
  obtain ⟨hB, hN, hD⟩ := h
  refine ⟨hB, ⟨⟨Z10_set hN.1.1 ⟨x0, x1⟩, Z10_set hN.1.2 ⟨x0, x1⟩⟩, fun g g0 g1 => ?_⟩, fun g k g0 g1 k0 k1 a b e => ?_⟩
  · by_cases e : g = x
    · subst e; exact Or.inl ⟨mset_s1, mset_s2⟩
    · rw [mset_n1 e, mset_n2 e]; exact hN.2 g g0 g1
  · have e1 : g ≠ x := fun q => by subst q; rw [mset_s1] at a; omega
    have e2 : k ≠ x := fun q => by subst q; rw [mset_n1 e1] at a b; rw [mset_s1] at b; omega
    rw [mset_n1 e1] at a b
    rw [mset_n1 e2] at b
    rw [mset_n2 e1, mset_n2 e2]
    exact hD g k g0 g1 k0 k1 a b e
theorem mset_id {N : gMN} {g : Int} (h : N.1 g = -6 ∧ N.2 g = -6) : mset N g (-6) (-6) = N := by
  refine Prod.ext (funext fun j => ?_) (funext fun j => ?_)
  · by_cases e : j = g
    · subst e; exact aset_s.trans h.1.symm
    · exact aset_n e
  · by_cases e : j = g
    · subst e; exact aset_s.trans h.2.symm
    · exact aset_n e
def lftF (s : Int) : Int → gMN → gMN := fun k N => if sb s k = true then mset N k (-6) (-6) else N
def lft (N : gMN) (s : Int) : gMN := itI (lftF s) 0 10 N
theorem FI_lift {B : gMB} {N : gMN} {s : Int} (h : FI B N) (i : Int) (h0 : 0 ≤ i) (h1 : i ≤ 10) : FI B (itI (lftF s) 0 i N) := itI_ind (P := fun _ (M : gMN) => FI B M) h0 h (fun k M k0 k1 hM => by
  unfold lftF
  split
  · exact FI_out hM k0 (by omega)
  · exact hM)
theorem FI_lft {B : gMB} {N : gMN} {s : Int} (h : FI B N) : FI B (lft N s) := FI_lift h 10 (by omega) (by omega)
theorem lft_g {N : gMN} {s g : Int} (i : Int) (h0 : 0 ≤ i) : (itI (lftF s) 0 i N).1 g = if 0 ≤ g ∧ g < i ∧ sb s g = true then -6 else N.1 g := by
  refine itI_ind (P := fun k (M : gMN) => M.1 g = if 0 ≤ g ∧ g < k ∧ sb s g = true then -6 else N.1 g) h0 (by rw [if_neg (by omega)]) (fun k M k0 k1 hM => ?_)
  unfold lftF
  by_cases e : g = k
  · subst e
    split
    · rename_i hs
      rw [mset_s1, if_pos ⟨k0, by omega, hs⟩]
    · rename_i hs
      rw [hM, if_neg (by omega), if_neg (fun q => hs q.2.2)]
  · have e2 : (if sb s k = true then mset M k (-6) (-6) else M).1 g = M.1 g := by
      split
      · exact mset_n1 e
      · rfl
    rw [e2, hM]
    by_cases q : 0 ≤ g ∧ g < k ∧ sb s g = true
    · rw [if_pos q, if_pos ⟨q.1, by omega, q.2.2⟩]
    · rw [if_neg q, if_neg (fun w => q ⟨w.1, by omega, w.2.2⟩)]
theorem s_lift0 {B : gMB} {N : gMN} {S : gWS} {T : gWT} {g : Int} {Q : gWT → Prop} (hT : TR B N T) (g0 : 0 ≤ g) (g1 : g < 10) (hg : N.1 g < 0) (h : Q T) : wp_X5_lift S T g Q := by
  unfold wp_X5_lift
  exact s_isLaid hT g0 g1 (fun a => by omega) (fun _ => ⟨fun q => absurd rfl q, fun _ => h⟩)
theorem s_liftAll {B : gMB} {N : gMN} {S : gWS} {T : gWT} {s : Int} {Q : gWT → Prop} (hI : FI B N) (hS : SR B S) (hT : TR B N T) (hs : S10 s) (h : ∀ T', TR B (lft N s) T' → Q T') : wp_X5_liftAll S T s Q := by
  unfold wp_X5_liftAll
  refine lp_inv (fun m i (T : gWT) => wp_X5_liftAll_2 S (fun T => Q T) Q m s i T) 10 (fun i T => 0 ≤ i ∧ TR B (itI (lftF s) 0 i N) T) ?_ ?_ 0 T (by omega) ⟨by omega, by rw [itI_0 (by omega)]; exact hT⟩
  · rintro m T ⟨_, hT⟩
    show wp_X5_liftAll_2 S _ Q (m + 1) s 10 T
    unfold wp_X5_liftAll_2
    exact ⟨by decide, fun _ => h _ hT, fun q => absurd (Int.le_refl 10) q⟩
  · rintro m i T hlt ⟨i0, hT⟩ ih
    have next : itI (lftF s) 0 (i + 1) N = lftF s i (itI (lftF s) 0 i N) := itI_s i0
    have hM := FI_lift (s := s) hI i i0 (by omega)
    show wp_X5_liftAll_2 S _ Q (m + 1) s i T
    unfold wp_X5_liftAll_2
    refine ⟨⟨by omega, by omega⟩, fun q => by omega, fun _ => s_hasBit hs ⟨by omega, by omega⟩ (fun _ _ a => ⟨fun q => absurd q (by decide), fun _ => ?_⟩) (fun a => ⟨fun _ => ih T ⟨by omega, ?_⟩, fun q => absurd rfl q⟩)⟩
    · have e : itI (lftF s) 0 (i + 1) N = mset (itI (lftF s) 0 i N) i (-6) (-6) := by rw [next]; exact if_pos a
      by_cases z : 0 ≤ (itI (lftF s) 0 i N).1 i
      · exact s_lift hM.1 hS hT hM.2.1 hM.2.2 i0 hlt z (fun T' hT' => ih T' ⟨by omega, by rw [e]; exact hT'⟩)
      · have z2 := hM.2.1.out i0 hlt (by omega)
        exact s_lift0 hT i0 hlt (by omega) (ih T ⟨by omega, by rw [e, mset_id z2]; exact hT⟩)
    · have e : itI (lftF s) 0 (i + 1) N = itI (lftF s) 0 i N := by rw [next]; exact if_neg (fun q => a ⟨i0, hlt, q⟩)
      rw [e]; exact hT
abbrev Flg (B : gMB) (N : gMN) (k : Int) : Prop := 0 ≤ N.1 k ∧ (¬ stn B N k ∨ 60466176 * B.2.2.2.2 k < ldA B N k)
def flF (B : gMB) (N : gMN) : Int → Int → Int := fun k a => if Flg B N k then ior a (ishl 1 k) else a
def flw (B : gMB) (N : gMN) : Int := itI (flF B N) 0 10 0
theorem fl_S {B : gMB} {N : gMN} (i : Int) (h0 : 0 ≤ i) (h1 : i ≤ 10) : S10 (itI (flF B N) 0 i 0) ∧ ∀ g, 0 ≤ g → g < 10 → sb (itI (flF B N) 0 i 0) g = true → Flg B N g := by
  refine itI_ind (P := fun (_ : Int) (a : Int) => S10 a ∧ ∀ g, 0 ≤ g → g < 10 → sb a g = true → Flg B N g) h0 ⟨S10_0, fun g _ _ q => by rw [sb_0] at q; exact absurd q (by decide)⟩ (fun k a k0 k1 hs => ?_)
  unfold flF
  split
  · rename_i hf
    have hb := S10_shl (g := k) ⟨k0, by omega⟩
    refine ⟨S10_or hs.1 hb, fun g g0 g1 q => ?_⟩
    rw [sb_or hs.1 hb, Bool.or_eq_true] at q
    rcases q with q | q
    · exact hs.2 g g0 g1 q
    · rw [sb_shl ⟨k0, by omega⟩ g0] at q
      have := of_decide_eq_true q
      subst this; exact hf
  · exact hs
theorem flw_S {B : gMB} {N : gMN} : S10 (flw B N) := (fl_S 10 (by omega) (by omega)).1
theorem s_fallingNow {B : gMB} {N : gMN} {S : gWS} {T : gWT} {U : gWU} {Q : Int → gWU → Prop} (hI : FI B N) (hS : SR B S) (hT : TR B N T) (h : ∀ U', Q (flw B N) U') : wp_X5_fallingNow S T U Q := by
  obtain ⟨hB, hN, hD⟩ := hI
  have hn := hB.1
  unfold wp_X5_fallingNow
  refine s_weigh hB hN hS hT (fun U5 hU5 => ?_)
  refine lp_inv (fun m i (x : Int) => wp_X5_fallingNow_8 S T (fun x1 U => Q x1 U) Q m x i U5) 10 (fun i x => 0 ≤ i ∧ x = itI (flF B N) 0 i 0) ?_ ?_ 0 0 (by omega) ⟨by omega, (itI_0 (by omega)).symm⟩
  · rintro m x ⟨_, e⟩
    show wp_X5_fallingNow_8 S T _ Q (m + 1) x 10 U5
    unfold wp_X5_fallingNow_8
    exact ⟨by decide, fun _ => by rw [e]; exact h U5, fun q => absurd (Int.le_refl 10) q⟩
  · rintro m i x hlt ⟨i0, e⟩ ih
    have next : itI (flF B N) 0 (i + 1) 0 = flF B N i x := by rw [itI_s i0, ← e]
    have hr := hN.2 i i0 hlt
    have hw := (hB.2.2 i i0 hlt).1
    show wp_X5_fallingNow_8 S T _ Q (m + 1) x i U5
    unfold wp_X5_fallingNow_8
    refine ⟨⟨by omega, by omega⟩, fun q => by omega, fun _ => s_at ⟨i0, hlt⟩ (by decide) (s_isLaid hT i0 hlt (fun a => ⟨fun q => absurd q (by decide), fun _ => ?_⟩) (fun a => ⟨fun _ => ih x ⟨by omega, ?_⟩, fun q => absurd rfl q⟩))⟩
    · rw [(hS.2.2 i i0 hlt).1]
      refine s_isTooHeavyOn hB hS hU5 i0 hlt (fun b => ⟨fun _ => ih _ ⟨by omega, ?_⟩, fun q => absurd (by decide) q⟩) (fun b => ⟨fun q => absurd rfl q, fun _ => s_at ⟨i0, hlt⟩ (by decide) (s_at ⟨i0, hlt⟩ (by decide) ?_)⟩)
      · rw [next]; exact (if_pos ⟨a, Or.inr b⟩).symm
      · rw [(hT.2.1 i i0 hlt a).1, (hT.2.1 i i0 hlt a).2]
        have eh : itI (hcF B N (N.1 i)) (N.2 i) (N.2 i + B.2.2.1 i) 0 = hld B N i := rfl
        have hh := hld_r (B := B) (N := N) (g := i) hw.1
        refine s_heldCells hT ⟨a, by omega⟩ (by omega) hw.1 (by omega) ?_
        rw [eh]
        refine ⟨⟨by omega, by omega⟩, ⟨by omega, by omega⟩, fun y => ih x ⟨by omega, ?_⟩, fun y => ih _ ⟨by omega, ?_⟩⟩
        · rw [next]; exact (if_neg (fun q => by rcases q.2 with q | q; exact q y; omega)).symm
        · rw [next]; exact (if_pos ⟨a, Or.inl y⟩).symm
    · rw [next]; exact (if_neg (fun q => by have := q.1; omega)).symm
/-- a round: what has fallen, and what is left -/
def rdF (B : gMB) : Int → (Int × gMN) → (Int × gMN) := fun _ s => (ior s.1 (flw B s.2), lft s.2 (flw B s.2))
def rds (B : gMB) (N : gMN) (k : Int) : Int × gMN := itI (rdF B) 0 k (0, N)
def fal (B : gMB) (N : gMN) : Int := (rds B N 10).1
theorem rd_ok {B : gMB} {N : gMN} (hI : FI B N) (k : Int) (h0 : 0 ≤ k) : S10 (rds B N k).1 ∧ FI B (rds B N k).2 := itI_ind (P := fun _ (s : Int × gMN) => S10 s.1 ∧ FI B s.2) h0 ⟨S10_0, hI⟩ (fun _ _ _ _ h => ⟨S10_or h.1 flw_S, FI_lft h.2⟩)
theorem lft_0 {N : gMN} : lft N 0 = N := itI_id (fun k _ _ => by
  unfold lftF; rw [if_neg (by rw [sb_0]; decide)])
theorem rd_stop {B : gMB} {N : gMN} (hI : FI B N) {k : Int} (h0 : 0 ≤ k) (hz : flw B (rds B N k).2 = 0) (j : Int) (hj : k ≤ j) : rds B N j = rds B N k := by
  unfold rds at *
  rw [itI_split h0 hj]
  refine itI_id (fun i _ _ => ?_)
  show (ior (itI (rdF B) 0 k (0, N)).1 (flw B (itI (rdF B) 0 k (0, N)).2), lft (itI (rdF B) 0 k (0, N)).2 (flw B (itI (rdF B) 0 k (0, N)).2)) = _
  rw [hz, lft_0, show ior (itI (rdF B) 0 k (0, N)).1 0 = (itI (rdF B) 0 k (0, N)).1 from ior_0 (rd_ok hI k h0).1]
def cnt (N : gMN) : Int := sm (fun h => if 0 ≤ N.1 h then 1 else 0) 0 10
theorem cnt_lft {B : gMB} {N : gMN} (hz : flw B N ≠ 0) : cnt (lft N (flw B N)) ≤ cnt N - 1 := by
  have hf := fl_S (B := B) (N := N) 10 (by omega) (by omega)
  obtain ⟨g, g0, g1, hg⟩ : ∃ g, 0 ≤ g ∧ g < 10 ∧ sb (flw B N) g = true := by
    refine Classical.byContradiction fun q => hz (sb_ext flw_S S10_0 fun g g0 g1 => ?_)
    rw [sb_0]
    cases hb : sb (flw B N) g
    · rfl
    · exact absurd ⟨g, g0, g1, hb⟩ q
  have hl := (hf.2 g g0 g1 hg).1
  unfold cnt
  have e1 : sm (fun h => if 0 ≤ (lft N (flw B N)).1 h then 1 else 0) 0 10 ≤ sm (fun h => if h = g then (0 : Int) else if 0 ≤ N.1 h then 1 else 0) 0 10 := by
    refine sm_le (fun h h0 h1 => ?_)
    have := lft_g (N := N) (s := flw B N) (g := h) 10 (by omega)
    unfold lft
    rw [this]
    by_cases e : h = g
    · subst e
      rw [if_pos (show 0 ≤ h ∧ h < 10 ∧ sb (flw B N) h = true from ⟨h0, h1, hg⟩), if_pos rfl, if_neg (by omega)]
      exact Int.le_refl _
    · rw [if_neg e]
      by_cases q : 0 ≤ h ∧ h < 10 ∧ sb (flw B N) h = true
      · rw [if_pos q, if_neg (show ¬ (0 : Int) ≤ -6 by omega)]; split <;> omega
      · rw [if_neg q]; exact Int.le_refl _
  have e2 := sm_upd (f := fun h => if 0 ≤ N.1 h then (1 : Int) else 0) (f' := fun h => if h = g then (0 : Int) else if 0 ≤ N.1 h then 1 else 0) g0 g1 (fun k _ _ e => if_neg e)
  rw [e2] at e1
  rw [if_pos rfl, if_pos hl] at e1
  omega
theorem cnt_r (N : gMN) : 0 ≤ cnt N ∧ cnt N ≤ 10 := by
  unfold cnt
  constructor
  · have := sm_le (f := fun _ => (0 : Int)) (g := fun h => if 0 ≤ N.1 h then (1 : Int) else 0) (lo := 0) (hi := 10) (fun k _ _ => by split <;> omega)
    rw [sm_const (by omega)] at this
    omega
  · have := sm_le (g := fun _ => (1 : Int)) (f := fun h => if 0 ≤ N.1 h then (1 : Int) else 0) (lo := 0) (hi := 10) (fun k _ _ => by split <;> omega)
    rw [sm_const (by omega)] at this
    omega
theorem rd_s {B : gMB} {N : gMN} {k : Int} (h : 0 ≤ k) : rds B N (k + 1) = (ior (rds B N k).1 (flw B (rds B N k).2), lft (rds B N k).2 (flw B (rds B N k).2)) := itI_s h
theorem rd_end {B : gMB} {N : gMN} (hI : FI B N) : flw B (rds B N 10).2 = 0 := by
  have H : cnt (rds B N 10).2 ≤ 10 - 10 ∨ flw B (rds B N 10).2 = 0 := by
    refine itI_ind (f := rdF B) (lo := 0) (hi := 10) (s := (0, N)) (P := fun k (s : Int × gMN) => cnt s.2 ≤ 10 - k ∨ flw B s.2 = 0) (by omega) (Or.inl (by have := cnt_r N; dsimp only; omega)) (fun k s k0 k1 hs => ?_)
    rcases hs with hs | hs
    · by_cases z : flw B s.2 = 0
      · right
        unfold rdF
        rw [z, lft_0]; exact z
      · left
        have := cnt_lft z
        unfold rdF
        dsimp only
        omega
    · right
      unfold rdF
      rw [hs, lft_0]; exact hs
  refine Decidable.byContradiction fun hz => ?_
  have h1 := cnt_lft hz
  have h2 := cnt_r (lft (rds B N 10).2 (flw B (rds B N 10).2))
  rcases H with H | H
  · omega
  · exact hz H
theorem s_collapse {B : gMB} {N : gMN} {S : gWS} {T : gWT} {U : gWU} {Q : Int → gWT → gWU → Prop} (hI : FI B N) (hS : SR B S) (hT : TR B N T) (h : ∀ T' U', Q (fal B N) T' U') : wp_X5_collapse S T U Q := by
  unfold wp_X5_collapse
  refine lp_inv (fun m i (s : Int × gWT × gWU) => wp_X5_collapse_4 S _ _ Q m s.1 i s.2.1 s.2.2) 10 (fun i s => 0 ≤ i ∧ s.1 = (rds B N i).1 ∧ TR B (rds B N i).2 s.2.1) ?_ ?_ 0 (0, T, U) (by omega) ⟨by omega, by unfold rds; rw [itI_0 (by omega)], by unfold rds; rw [itI_0 (by omega)]; exact hT⟩
  · rintro m ⟨x, T, U⟩ ⟨_, e, hT⟩
    show wp_X5_collapse_4 S _ _ Q (m + 1) x 10 T U
    unfold wp_X5_collapse_4
    dsimp only at e
    exact ⟨by decide, fun _ => by rw [e]; exact h _ _, fun q => absurd (Int.le_refl 10) q⟩
  · rintro m i ⟨x, T, U⟩ hlt ⟨i0, e, hT⟩ ih
    dsimp only at e hT
    have hok := rd_ok hI i i0
    have hf : S10 (flw B (rds B N i).2) := flw_S
    show wp_X5_collapse_4 S _ _ Q (m + 1) x i T U
    unfold wp_X5_collapse_4
    refine ⟨⟨by omega, by omega⟩, fun q => by omega, fun _ => s_fallingNow hok.2 hS hT (fun U5 => ⟨⟨by have := hf.1; omega, by have := hf.2; omega⟩, fun z => ?_, fun z => ?_⟩)⟩
    · refine s_liftAll hok.2 hS hT hf (fun T' hT' => ih (ior x (flw B (rds B N i).2), T', U5) ⟨by omega, ?_, ?_⟩)
      · rw [rd_s i0, e]
      · rw [rd_s i0]; exact hT'
    · have z := Decidable.of_not_not z
      have := rd_stop hI i0 z 10 (by omega)
      have h2 := h T U5
      unfold fal at h2
      rw [this, ← e] at h2
      exact h2
def vFw (B : gMB) (N : gMN) (s : Int) : Int := fal B (lft N s)
theorem vFw_S {B : gMB} {N : gMN} {s : Int} (hI : FI B N) : S10 (vFw B N s) := (rd_ok (FI_lft hI) 10 (by omega)).1
theorem s_fallenWithout {B : gMB} {N : gMN} {S Sr : gWS} {T Tr : gWT} {Ur : gWU} {s : Int} {Q : Int → gWS → gWT → gWU → Prop} (hI : FI B N) (hS : SR B S) (hT : TR B N T) (hs : S10 s) (h : ∀ S' T' U', Q (vFw B N s) S' T' U') : wp_X6_fallenWithout S T Sr Tr Ur s Q := by
  unfold wp_X6_fallenWithout
  exact s_become hS hT (fun S2 T2 hS2 hT2 => s_liftAll hI hS2 hT2 hs (fun T3 hT3 => s_collapse (FI_lft hI) hS2 hT3 (fun T4 U4 => h _ _ _)))
theorem s_X7_fallsBy {B : gMB} {P : gMP} {N : gMN} {L : gML} {s : Int} {Q : Int → gMN → gML → Prop} (hI : FI B P) (hN : Scr N L) (hs : S10 s) (h : ∀ N' L', Scr N' L' → Q (vFw B P s) N' L') : wp_X7_fallsBy B P N L s Q := by
  have hB := hI.1
  unfold wp_X7_fallsBy
  refine s_X7_asNow hI.2.1.1 hN.1 ?_
  have tak : ∀ (K : gMN → gML → Prop) (M : gMN) (x L : _), FI B M → S10 x → K (lft M x) L → ∃ m, wp_X7_fallsBy_6 K Q m x 0 M L := fun K M x L hM hx hK => by
    refine lp_inv (fun m i (M : gMN) => wp_X7_fallsBy_6 K Q m x i M L) 10 (fun i M' => 0 ≤ i ∧ M' = itI (lftF x) 0 i M) ?_ ?_ 0 M (by omega) ⟨by omega, (itI_0 (by omega)).symm⟩
    · rintro m M' ⟨_, e⟩
      show wp_X7_fallsBy_6 K Q (m + 1) x 10 M' L
      unfold wp_X7_fallsBy_6
      exact ⟨by decide, fun _ => by rw [e]; exact hK, fun q => absurd (Int.le_refl 10) q⟩
    · rintro m i M' hlt ⟨i0, e⟩ ih
      have next : itI (lftF x) 0 (i + 1) M = lftF x i M' := by rw [itI_s i0, ← e]
      show wp_X7_fallsBy_6 K Q (m + 1) x i M' L
      unfold wp_X7_fallsBy_6
      refine ⟨⟨by omega, by omega⟩, fun q => by omega, fun _ => s_X7_has hx ⟨i0, hlt⟩ (fun f => ⟨fun q => absurd q (by decide), fun _ => s_X7_take ⟨i0, hlt⟩ (ih _ ⟨by omega, ?_⟩)⟩) (fun f => ⟨fun _ => ih _ ⟨by omega, ?_⟩, fun q => absurd rfl q⟩)⟩
      · rw [next]; exact (if_pos f).symm
      · rw [next]; exact (if_neg (fun q => by rw [f] at q; exact absurd q (by decide))).symm
  refine tak _ P s L hI hs ?_
  have hI2 : FI B (lft P s) := FI_lft hI
  have out : ∀ k : Int, flw B (rds B (lft P s) k).2 = 0 → 0 ≤ k → k ≤ 10 → ∀ L', Z10 L' → Q (rds B (lft P s) k).1 (rds B (lft P s) k).2 L' := fun k hz k0 k1 L' hL' => by
    have := rd_stop hI2 k0 hz 10 k1
    have h2 := h (rds B (lft P s) k).2 L' ⟨(rd_ok hI2 k k0).2.2.1.1, hL'⟩
    unfold vFw fal at h2
    rw [this] at h2
    exact h2
  have stp : ∀ (M : gMN) (fl x : Int) (L' : gML), FI B M → rI x → Z10 L' → x ≠ 0 → (∃ m, wp_X7_fallsBy_35 B (fun (x2 : Int) (N : gMN) (L : gML) => Q x2 N L) Q m (ior fl (flw B M)) (flw B M) (lft M (flw B M)) (ldA B M)) → ∃ m, wp_X7_fallsBy_35 B (fun (x2 : Int) (N : gMN) (L : gML) => Q x2 N L) Q m fl x M L' := fun M fl x L' hM hx hL' hx0 hc => by
    obtain ⟨m, hm⟩ := hc
    have hR := hM.2.1.nr hB
    refine ⟨m + 1, ?_⟩
    unfold wp_X7_fallsBy_35
    refine ⟨hx, fun q => absurd q hx0, fun _ => s_X7_layLoads hB hR hL' ?_⟩
    refine lp_inv (fun n i (y : Int) => wp_X7_fallsBy_48 B _ Q n fl y i M (ldA B M)) 10 (fun i y => 0 ≤ i ∧ y = itI (flF B M) 0 i 0) ?_ ?_ 0 0 (by omega) ⟨by omega, (itI_0 (by omega)).symm⟩
    · rintro n y ⟨_, e⟩
      show wp_X7_fallsBy_48 B _ Q (n + 1) fl y 10 M (ldA B M)
      unfold wp_X7_fallsBy_48
      refine ⟨by decide, fun _ => ?_, fun q => absurd (Int.le_refl 10) q⟩
      rw [e]
      have hf : S10 (flw B M) := flw_S
      refine lp_inv (fun n i (M' : gMN) => wp_X7_fallsBy_102 _ Q n fl (flw B M) i M' (ldA B M)) 10 (fun i M' => 0 ≤ i ∧ M' = itI (lftF (flw B M)) 0 i M) ?_ ?_ 0 M (by omega) ⟨by omega, (itI_0 (by omega)).symm⟩
      · rintro n M' ⟨_, e⟩
        show wp_X7_fallsBy_102 _ Q (n + 1) fl (flw B M) 10 M' (ldA B M)
        unfold wp_X7_fallsBy_102
        exact ⟨by decide, fun _ => by rw [e]; exact hm, fun q => absurd (Int.le_refl 10) q⟩
      · rintro n i M' hlt ⟨i0, e⟩ ih
        have next : itI (lftF (flw B M)) 0 (i + 1) M = lftF (flw B M) i M' := by rw [itI_s i0, ← e]
        show wp_X7_fallsBy_102 _ Q (n + 1) fl (flw B M) i M' (ldA B M)
        unfold wp_X7_fallsBy_102
        refine ⟨⟨by omega, by omega⟩, fun q => by omega, fun _ => s_X7_has hf ⟨i0, hlt⟩ (fun f => ⟨fun q => absurd q (by decide), fun _ => s_X7_take ⟨i0, hlt⟩ (ih _ ⟨by omega, ?_⟩)⟩) (fun f => ⟨fun _ => ih _ ⟨by omega, ?_⟩, fun q => absurd rfl q⟩)⟩
        · rw [next]; exact (if_pos f).symm
        · rw [next]; exact (if_neg (fun q => by rw [f] at q; exact absurd q (by decide))).symm
    · rintro n i y hlt ⟨i0, e⟩ ih
      have hy : S10 y := by rw [e]; exact (fl_S i i0 (by omega)).1
      have next : itI (flF B M) 0 (i + 1) 0 = flF B M i y := by rw [itI_s i0, ← e]
      have no : ¬ Flg B M i → itI (flF B M) 0 (i + 1) 0 = ior y 0 := fun q => by rw [next, ior_0 hy]; exact if_neg q
      have yes : Flg B M i → itI (flF B M) 0 (i + 1) 0 = ior y (ishl 1 i) := fun q => by rw [next]; exact if_pos q
      show wp_X7_fallsBy_48 B _ Q (n + 1) fl y i M (ldA B M)
      unfold wp_X7_fallsBy_48
      refine ⟨⟨by omega, by omega⟩, fun q => by omega, fun _ => s_X7_isIn hR ⟨i0, hlt⟩ (fun a => ⟨fun q => absurd q (by decide), fun _ => ?_⟩) (fun a => ⟨fun _ => ih _ ⟨by omega, (no (fun q => by have := q.1; omega)).symm⟩, fun q => absurd rfl q⟩)⟩
      refine s_X7_stands hR ⟨i0, hlt⟩ (fun b => ⟨fun q => absurd q (by decide), fun _ => ?_⟩) (fun b => ⟨fun _ => ih _ ⟨by omega, (yes ⟨a, Or.inl b⟩).symm⟩, fun q => absurd rfl q⟩)
      refine s_X7_isOver hB hR ⟨i0, hlt⟩ (fun _ c => ⟨fun q => absurd q (by decide), fun _ => ih _ ⟨by omega, (yes ⟨a, Or.inr c⟩).symm⟩⟩) (fun c => ⟨fun _ => ih _ ⟨by omega, (no (fun q => ?_)).symm⟩, fun q => absurd rfl q⟩)
      rcases q.2 with q | q
      · exact q b
      · exact c ⟨a, q⟩
  have fin : ∀ k : Int, 0 ≤ k → k ≤ 10 → flw B (rds B (lft P s) k).2 = 0 → ∀ (x : Int) (L' : gML), rI x → Z10 L' → x ≠ 0 → ∃ m, wp_X7_fallsBy_35 B (fun (x2 : Int) (N : gMN) (L : gML) => Q x2 N L) Q m (rds B (lft P s) k).1 x (rds B (lft P s) k).2 L' := fun k k0 k1 hz x L' hx hL' hx0 => by
    have hok := rd_ok hI2 k k0
    refine stp _ _ _ _ hok.2 hx hL' hx0 ?_
    rw [hz, lft_0, ior_0 hok.1]
    refine ⟨1, ?_⟩
    unfold wp_X7_fallsBy_35
    exact ⟨by decide, fun _ => out k hz k0 k1 _ (ldA_z hB), fun q => absurd rfl q⟩
  suffices H : ∀ (j : Nat) (k : Int), 0 ≤ k → k + j = 10 → ∀ (x : Int) (L' : gML), rI x → Z10 L' → x ≠ 0 → ∃ m, wp_X7_fallsBy_35 B (fun (x2 : Int) (N : gMN) (L : gML) => Q x2 N L) Q m (rds B (lft P s) k).1 x (rds B (lft P s) k).2 L' by
    have := H 10 0 (by omega) (by omega) 1 L ⟨by decide, by decide⟩ hN.2 (by decide)
    rw [show rds B (lft P s) 0 = (0, lft P s) from itI_0 (by omega)] at this
    exact this
  intro j
  induction j with
  | zero => intro k k0 e x L' hx hL' hx0
            have e : k = 10 := by omega
            subst e
            exact fin 10 k0 (by omega) (rd_end hI2) x L' hx hL' hx0
  | succ j ih =>
    intro k k0 e x L' hx hL' hx0
    by_cases hz : flw B (rds B (lft P s) k).2 = 0
    · exact fin k k0 (by omega) hz x L' hx hL' hx0
    · have hf : S10 (flw B (rds B (lft P s) k).2) := flw_S
      have := ih (k + 1) (by omega) (by omega) _ (ldA B (rds B (lft P s) k).2) ⟨by have := hf.1; omega, by have := hf.2; omega⟩ (ldA_z hB) hz
      refine stp _ _ _ _ (rd_ok hI2 k k0).2 hx hL' hx0 ?_
      rw [rd_s k0] at this
      exact this
/-! the calls -/
def vFalls (B : gMB) (N : gMN) (s : Int) : Int := if 0 ≤ s ∧ s ≤ 1023 then vFw B N s else -2
theorem s_falls {B : gMB} {N : gMN} {S Sr : gWS} {T Tr : gWT} {Ur : gWU} {s : Int} {Q : Int → gWS → gWT → gWU → Prop} (hI : Inv B N) (hS : SR B S) (hT : TR B N T) (rs : rI s) (h : ∀ S' T' U', Q (vFalls B N s) S' T' U') (h0 : Q (vFalls B N s) Sr Tr Ur) : wp_X6_falls S T Sr Tr Ur s Q := by
  unfold wp_X6_falls vFalls at *
  refine s_isOutside rs (by decide) (by decide) (fun a b => ⟨fun _ => ?_, fun q => absurd rfl q⟩) (fun a => ⟨fun q => absurd q (by decide), fun _ => ?_⟩)
  · rw [if_pos ⟨a, b⟩] at h
    exact s_fallenWithout hI.fi hS hT ⟨a, by omega⟩ h
  · rw [if_neg a] at h0; exact h0
theorem s_X7_falls {B : gMB} {P : gMP} {N : gMN} {L : gML} {s : Int} {Q : Int → gMN → gML → Prop} (hI : Inv B P) (hN : Scr N L) (rs : rI s) (h : ∀ N' L', Scr N' L' → Q (vFalls B P s) N' L') : wp_X7_falls B P N L s Q := by
  unfold wp_X7_falls vFalls at *
  refine s_X7_in rs (by decide) (by decide) (fun a b => ⟨fun q => absurd q (by decide), fun _ => ?_⟩) (fun a => ⟨fun _ => ?_, fun q => absurd rfl q⟩)
  · rw [if_pos ⟨a, b⟩] at h
    exact s_X7_fallsBy hI.fi hN ⟨a, by omega⟩ h
  · rw [if_neg a] at h; exact h _ _ hN
