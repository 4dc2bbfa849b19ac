/-! seen, forget, told, year -/
/-- the class's SIGHTS and the reference's -/
def GR (n : Int) (G : gGG) (H : gMG) : Prop := G.1 = H.1 ∧ (0 ≤ H.1 ∧ H.1 ≤ 8) ∧ ∀ k, 0 ≤ k → k < H.1 → G.2.1 k = H.2 (2 * k) ∧ G.2.2 k = H.2 (2 * k + 1) ∧ (0 ≤ H.2 (2 * k) ∧ H.2 (2 * k) < n) ∧ (0 ≤ H.2 (2 * k + 1) ∧ H.2 (2 * k + 1) ≤ 10)
theorem GR_0 {n : Int} {f g h : Int → Int} : GR n (0, f, g) (0, h) := ⟨rfl, ⟨by simp, by simp⟩, fun k a b => by dsimp only at b; omega⟩
def vSeen (n : Int) (H : gMG) (c h : Int) : Int × gMG := if ¬ (0 ≤ c ∧ c ≤ n - 1) then (-1, H) else if ¬ (0 ≤ h ∧ h ≤ 10) then (-2, H) else if H.1 = 8 then (-4, H) else (H.1 + 1, H.1 + 1, aset (aset H.2 (2 * H.1) c) (2 * H.1 + 1) h)
theorem s_seen {B : gMB} {S : gWS} {G : gGG} {H : gMG} {c r : Int} {Q : Int → gGG → Prop} (hB : BOk B) (hS : SR B S) (hG : GR B.1 G H) (rc : rI c) (rr : rI r) (h : ∀ G', GR B.1 G' (vSeen B.1 H c r).2 → Q (vSeen B.1 H c r).1 G') : wp_X6_seen S G c r Q := by
  have hn := hB.1
  obtain ⟨e1, e2, e3⟩ := id hG
  unfold wp_X6_seen vSeen at *
  refine s_isNoColumn hB hS rc (fun a b => ⟨fun _ => ?_, fun q => absurd rfl q⟩) (fun a => ⟨fun q => absurd q (by decide), fun _ => ?_⟩)
  · rw [if_neg (fun q => q ⟨a, b⟩)] at h
    refine s_isOutside rr (by decide) (by decide) (fun r0 r9 => ⟨fun _ => ?_, fun q => absurd rfl q⟩) (fun z => ⟨fun q => absurd q (by decide), fun _ => ?_⟩)
    · rw [if_neg (fun q => q ⟨r0, r9⟩)] at h
      refine ⟨⟨by omega, by omega⟩, fun y => ?_, fun y => ?_⟩
      · rw [if_neg (by omega)] at h
        unfold wp_X4_add
        refine s_set ⟨by omega, by omega⟩ (by decide) (s_set ⟨by omega, by omega⟩ (by decide) ?_)
        dsimp only
        rw [e1] at *
        refine h _ ⟨rfl, ⟨by dsimp only; omega, by dsimp only; omega⟩, fun k k0 k1 => ?_⟩
        dsimp only at k1 ⊢
        by_cases hk : k = H.1
        · subst hk
          rw [aset_s, aset_s, aset_n (by omega), aset_s, aset_s]
          exact ⟨rfl, rfl, ⟨by omega, by omega⟩, by omega, by omega⟩
        · rw [aset_n hk, aset_n hk, aset_n (by omega), aset_n (by omega), aset_n (by omega), aset_n (by omega)]
          exact e3 k k0 (by omega)
      · rw [if_pos (by omega)] at h; exact h _ hG
    · rw [if_pos z] at h; exact h _ hG
  · rw [if_pos a] at h; exact h _ hG
theorem s_X7_seen {B : gMB} {H : gMG} {c r : Int} {Q : Int → gMG → Prop} (hB : BOk B) (hG : 0 ≤ H.1 ∧ H.1 ≤ 8) (rc : rI c) (rr : rI r) (h : Q (vSeen B.1 H c r).1 (vSeen B.1 H c r).2) : wp_X7_seen B H c r Q := by
  have hn := hB.1
  unfold wp_X7_seen vSeen at *
  refine s_X7_in rc (by decide) ⟨by omega, by omega⟩ (fun a b => ⟨fun _ => ?_, fun q => absurd (by decide) q⟩) (fun a => ⟨fun q => absurd rfl q, fun _ => ?_⟩)
  · rw [if_neg (fun q => q ⟨a, b⟩)] at h
    refine s_X7_in rr (by decide) (by decide) (fun r0 r9 => ⟨fun _ => ?_, fun q => absurd (by decide) q⟩) (fun z => ⟨fun q => absurd rfl q, fun _ => ?_⟩)
    · rw [if_neg (fun q => q ⟨r0, r9⟩)] at h
      refine ⟨⟨by omega, by omega⟩, fun y => ?_, fun y => ?_⟩
      · rw [if_neg y] at h
        exact ⟨⟨by omega, by omega⟩, ⟨by omega, by omega⟩, h⟩
      · rw [if_pos (by omega)] at h; exact h
    · rw [if_pos z] at h; exact h
  · rw [if_pos a] at h; exact h
theorem s_forget {n : Int} {G : gGG} {H : gMG} {Q : Int → gGG → Prop} (hG : GR n G H) (h : ∀ G', GR n G' (0, H.2) → Q H.1 G') : wp_X6_forget G Q := by
  unfold wp_X6_forget
  rw [hG.1]
  exact h _ GR_0
theorem s_X7_forget {H : gMG} {Q : Int → gMG → Prop} (h : Q H.1 (0, H.2)) : wp_X7_forget H Q := by
  unfold wp_X7_forget
  exact h
/-! told -/
theorem td_r {w : Int} (hr : rI w) : rI (w.tdiv 10 - 1) ∧ rI (w.tmod 10) ∧ (w < 10 → w.tdiv 10 - 1 < 0) := by
  unfold rI at *
  rcases Int.le_total 0 w with h | h
  · rw [Int.tdiv_eq_ediv_of_nonneg h, Int.tmod_eq_emod_of_nonneg h]
    omega
  · have e1 : w.tdiv 10 = -((-w) / 10) := by rw [← Int.tdiv_eq_ediv_of_nonneg (show 0 ≤ -w by omega), Int.neg_tdiv, Int.neg_neg]
    have e2 : w.tmod 10 = -((-w) % 10) := by rw [← Int.tmod_eq_emod_of_nonneg (show 0 ≤ -w by omega), Int.neg_tmod, Int.neg_neg]
    rw [e1, e2]
    omega
def lbF (N : gMN) : Int → Int → Int := fun k a => if N.1 k < 0 then ior a 0 else ior a (ishl 1 k)
def lbs (N : gMN) : Int := itI (lbF N) 0 10 0
theorem lb_S {N : gMN} (i : Int) (h0 : 0 ≤ i) (h1 : i ≤ 10) : S10 (itI (lbF N) 0 i 0) ∧ ∀ g, 0 ≤ g → g < 10 → sb (itI (lbF N) 0 i 0) g = (decide (g < i) && decide (0 ≤ N.1 g)) := by
  refine itI_ind (P := fun (k : Int) (a : Int) => S10 a ∧ ∀ g, 0 ≤ g → g < 10 → sb a g = (decide (g < k) && decide (0 ≤ N.1 g))) h0 ⟨S10_0, fun g g0 g1 => ?_⟩ (fun k a k0 k1 hs => ?_)
  · rw [sb_0, decide_eq_false (by omega)]; rfl
  · unfold lbF
    split
    · rename_i hk
      rw [ior_0 hs.1]
      refine ⟨hs.1, fun g g0 g1 => ?_⟩
      rw [hs.2 g g0 g1]
      by_cases e : g = k
      · subst e; rw [decide_eq_false (p := 0 ≤ N.1 g) (by omega), Bool.and_false, Bool.and_false]
      · congr 1; exact decide_eq_decide.mpr (by omega)
    · rename_i hk
      have hb := S10_shl (g := k) ⟨k0, by omega⟩
      refine ⟨S10_or hs.1 hb, fun g g0 g1 => ?_⟩
      rw [sb_or hs.1 hb, hs.2 g g0 g1, sb_shl ⟨k0, by omega⟩ g0]
      by_cases e : k = g
      · subst e; rw [decide_eq_true rfl, Bool.or_true, decide_eq_true (p := k < k + 1) (by omega), decide_eq_true (p := 0 ≤ N.1 k) (by omega)]; rfl
      · rw [decide_eq_false e, Bool.or_false]; congr 1; exact decide_eq_decide.mpr (by omega)
theorem lbs_T {B : gMB} {N : gMN} {T : gWT} (hT : TR B N T) : T.1 = lbs N := by
  have h := lb_S (N := N) 10 (by omega) (by omega)
  refine sb_ext hT.1.1 h.1 (fun g g0 g1 => ?_)
  show _ = sb (itI (lbF N) 0 10 0) g
  rw [h.2 g g0 g1, hT.1.2 g g0 g1, decide_eq_true (p := g < 10) g1, Bool.true_and]
def vTold (B : gMB) (N : gMN) (H D what : Int) : Int := if what = 0 then D else if what = 1 then B.1 else if what = 2 then B.2.1 else if what = 3 then lbs N else if what = 4 then H else if ¬ (0 ≤ what.tdiv 10 - 1 ∧ what.tdiv 10 - 1 < 10 ∧ sb B.2.1 (what.tdiv 10 - 1) = true) then -2 else if what.tmod 10 = 0 then B.2.2.1 (what.tdiv 10 - 1) else if what.tmod 10 = 1 then B.2.2.2.1 (what.tdiv 10 - 1) else if what.tmod 10 = 2 then B.2.2.2.2 (what.tdiv 10 - 1) else -2
theorem s_told {B : gMB} {N : gMN} {S : gWS} {T : gWT} {G : gGG} {P : gPP} {H D w : Int} {Q : Int → Prop} (hB : BOk B) (hS : SR B S) (hT : TR B N T) (hG : G.1 = H) (hD : P.1 = D) (rw_ : rI w) (h : Q (vTold B N H D w)) : wp_X6_told S T G P w Q := by
  unfold wp_X6_told vTold at *
  refine ⟨rw_, fun e => ?_, fun e => ?_, fun e => ?_, fun e => ?_, fun e => ?_, fun e => ?_⟩
  · rw [if_pos e] at h; rw [hD]; exact h
  · rw [if_neg (by omega), if_pos e] at h; rw [hS.1]; exact h
  · rw [if_neg (by omega), if_neg (by omega), if_pos e] at h; rw [hS.2.1]; exact h
  · rw [if_neg (by omega), if_neg (by omega), if_neg (by omega), if_pos e] at h; rw [lbs_T hT]; exact h
  · rw [if_neg (by omega), if_neg (by omega), if_neg (by omega), if_neg (by omega), if_pos e] at h; rw [hG]; exact h
  · rw [if_neg e.1, if_neg e.2.1, if_neg e.2.2.1, if_neg e.2.2.2.1, if_neg e.2.2.2.2] at h
    unfold wp_X6_toldOfStone wp_X5_isGiven
    rw [hS.2.1]
    refine s_hasBit hB.2.1 (td_r rw_).1 (fun a b c => ⟨fun _ => ?_, fun q => absurd (by decide) q⟩) (fun a => ⟨fun q => absurd rfl q, fun _ => ?_⟩)
    · rw [if_neg (fun q => q ⟨a, b, c⟩)] at h
      obtain ⟨f1, f2, f3⟩ := hS.2.2 _ a b
      refine ⟨(td_r rw_).2.1, fun y => ?_, fun y => ?_, fun y => ?_, fun y => ?_⟩
      · rw [if_pos y] at h
        refine s_at ⟨a, b⟩ (by decide) ?_
        rw [f1]; exact h
      · rw [if_neg (by omega), if_pos y] at h
        refine s_at ⟨a, b⟩ (by decide) ?_
        rw [f2]; exact h
      · rw [if_neg (by omega), if_neg (by omega), if_pos y] at h
        refine s_at ⟨a, b⟩ (by decide) ?_
        rw [f3]; exact h
      · rw [if_neg y.1, if_neg y.2.1, if_neg y.2.2] at h; exact h
    · rw [if_pos a] at h; exact h
theorem s_X7_told {B : gMB} {P : gMP} {H : gMG} {D : gMD} {w : Int} {Q : Int → Prop} (hB : BOk B) (hP : NOk B P) (hr : rI w) (h : Q (vTold B P H.1 D.1 w)) : wp_X7_told B P H D w Q := by
  unfold wp_X7_told vTold at *
  refine ⟨hr, fun e => ?_, fun e => ?_⟩
  · refine lp_inv (fun m k (x : Int) => wp_X7_told_106 P _ Q m w x k) 10 (fun k x => 0 ≤ k ∧ x = itI (lbF P) 0 k 0) ?_ ?_ 0 0 (by omega) ⟨by omega, (itI_0 (by omega)).symm⟩
    · rintro m x ⟨_, e1⟩
      show wp_X7_told_106 P _ Q (m + 1) w x 10
      unfold wp_X7_told_106
      refine ⟨by decide, fun _ => ⟨hr, fun y => ?_, fun y => ?_, fun y => ?_, fun y => ?_, fun y => ?_⟩, fun q => absurd (Int.le_refl 10) q⟩
      · rw [if_pos y] at h; exact h
      · rw [if_neg (by omega), if_pos y] at h; exact h
      · rw [if_neg (by omega), if_neg (by omega), if_pos y] at h; exact h
      · rw [if_neg (by omega), if_neg (by omega), if_neg (by omega), if_pos y] at h; rw [e1]; exact h
      · rw [if_neg y.1, if_neg y.2.1, if_neg y.2.2.1, if_neg y.2.2.2] at h
        refine ⟨fun z => ?_, fun z => ?_⟩
        · rw [if_neg z, if_pos (fun q => by have := (td_r hr).2.2 e; omega)] at h; exact h
        · rw [if_pos (Decidable.of_not_not z)] at h; exact h
    · rintro m k x hlt ⟨k0, e1⟩ ih
      have hk := hP.nr hB k k0 hlt
      have next : itI (lbF P) 0 (k + 1) 0 = lbF P k x := by rw [itI_s k0, ← e1]
      show wp_X7_told_106 P _ Q (m + 1) w x k
      unfold wp_X7_told_106
      refine ⟨⟨by omega, by omega⟩, fun q => by omega, fun _ => ⟨⟨k0, hlt⟩, ⟨by omega, by omega⟩, fun y => ih _ ⟨by omega, ?_⟩, fun y => ih _ ⟨by omega, ?_⟩⟩⟩
      · rw [next]; exact (if_pos y).symm
      · rw [next]; exact (if_neg y).symm
  · rw [if_neg (by omega), if_neg (by omega), if_neg (by omega), if_neg (by omega), if_neg (by omega)] at h
    refine s_X7_in (td_r hr).1 (by decide) (by decide) (fun a b => ⟨fun q => absurd q (by decide), fun _ => ?_⟩) (fun a => ⟨fun _ => ?_, fun q => absurd rfl q⟩)
    · refine s_X7_has hB.2.1 ⟨a, by omega⟩ (fun f => ⟨fun _ => ?_, fun q => absurd (by decide) q⟩) (fun f => ⟨fun q => absurd rfl q, fun _ => ?_⟩)
      · rw [if_neg (fun q => q ⟨a, by omega, f⟩)] at h
        refine ⟨(td_r hr).2.1, fun y => ⟨⟨a, by omega⟩, ?_⟩, fun y => ⟨⟨a, by omega⟩, ?_⟩, fun y => ⟨fun z => ?_, fun z => ⟨⟨a, by omega⟩, ?_⟩⟩⟩
        · rw [if_pos y] at h; exact h
        · rw [if_neg (by omega), if_pos y] at h; exact h
        · rw [if_neg y.1, if_neg y.2, if_neg z] at h; exact h
        · rw [if_neg y.1, if_neg y.2, if_pos (Decidable.of_not_not z)] at h; exact h
      · rw [if_pos (fun q => by rw [f] at q; exact absurd q.2.2 (by decide))] at h; exact h
    · rw [if_pos (fun q => a ⟨q.1, by omega⟩)] at h; exact h
