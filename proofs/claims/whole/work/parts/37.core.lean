/-! calls 1 to 11: both sides answer the same value -/
def Scr (N : gMN) (L : gML) : Prop := (Z10 N.1 ∧ Z10 N.2) ∧ Z10 L
theorem s_isOutside {x lo hi : Int} {Q : Int → Prop} (hx : rI x) (hl : rI lo) (hh : rI hi) (h0 : lo ≤ x → x ≤ hi → Q 0) (h1 : ¬ (lo ≤ x ∧ x ≤ hi) → Q 1) : wp_X6_isOutside x lo hi Q := by
  unfold wp_X6_isOutside
  exact ⟨hx, hl, fun a => h1 (fun q => by omega), fun a => ⟨hh, fun b => h0 (by omega) b, fun b => h1 (fun q => by omega)⟩⟩
theorem s_isNoGuest {x : Int} {Q : Int → Prop} (hx : rI x) (h0 : 0 ≤ x → x ≤ 9 → Q 0) (h1 : ¬ (0 ≤ x ∧ x ≤ 9) → Q 1) : wp_X6_isNoGuest x Q := by
  unfold wp_X6_isNoGuest
  exact s_isOutside hx (by decide) (by decide) h0 h1
theorem s_isNoColumn {B : gMB} {S : gWS} {x : Int} {Q : Int → Prop} (hB : BOk B) (hS : SR B S) (hx : rI x) (h0 : 0 ≤ x → x ≤ B.1 - 1 → Q 0) (h1 : ¬ (0 ≤ x ∧ x ≤ B.1 - 1) → Q 1) : wp_X6_isNoColumn S x Q := by
  have := hB.1
  unfold wp_X6_isNoColumn
  rw [hS.1]
  exact s_isOutside hx (by decide) ⟨by omega, by omega⟩ h0 h1
/-! an empty wall -/
theorem cov_out {B : gMB} {N : gMN} {g c : Int} (h : N.1 g < 0) : ¬ cov B N g c := fun q => by have := q.1; omega
theorem who_empty {B : gMB} {N : gMN} (h : ∀ g, 0 ≤ g → g < 10 → N.1 g = -6 ∧ N.2 g = -6) (r c : Int) : who B N r c = -6 := who_none (fun g g0 g1 q => cov_out (by have := (h g g0 g1).1; omega) q.1)
theorem hgt_empty {B : gMB} {N : gMN} (h : ∀ g, 0 ≤ g → g < 10 → N.1 g = -6 ∧ N.2 g = -6) (c : Int) : hgt B N c = 0 := hgt_eq (fun g g0 g1 q => absurd q (cov_out (by have := (h g g0 g1).1; omega))) (Or.inl rfl) (Int.le_refl 0)
theorem inv_empty {B : gMB} {N : gMN} (hB : BOk B) (hz : Z10 N.1 ∧ Z10 N.2) (h : ∀ g, 0 ≤ g → g < 10 → N.1 g = -6 ∧ N.2 g = -6) : Inv B N :=
  ⟨hB, ⟨hz, fun g g0 g1 => Or.inl (h g g0 g1)⟩, fun g k g0 g1 k0 k1 a b e => by have := (h g g0 g1).1; omega, fun g g0 g1 a => by have := (h g g0 g1).1; omega, fun g g0 g1 a => by have := (h g g0 g1).1; omega⟩
theorem BOk_n {B : gMB} (hB : BOk B) {n : Int} (hn : 2 ≤ n ∧ n ≤ 9) : BOk (n, 0, B.2.2.1, B.2.2.2.1, B.2.2.2.2) :=
  ⟨hn, S10_0, fun g g0 g1 => by
    have := hB.2.2 g g0 g1
    exact ⟨this.1, this.2.1, this.2.2.1, fun q => by rw [show sb ((n, 0, B.2.2.1, B.2.2.2.1, B.2.2.2.2) : gMB).2.1 g = false from sb_0 g] at q; exact absurd q (by decide)⟩⟩
def vWall (B : gMB) (n : Int) : Int := if 2 ≤ n ∧ n ≤ 9 then B.1 else -2
theorem s_wall {B : gMB} {N : gMN} {S : gWS} {T : gWT} {G : gGG} {n : Int} {Q : Int → gWS → gWT → gGG → Prop} (hB : BOk B) (hS : SR B S) (hn : rI n) (h1 : 2 ≤ n ∧ n ≤ 9 → ∀ S' T', (∀ N' : gMN, (∀ g, 0 ≤ g → g < 10 → N'.1 g = -6 ∧ N'.2 g = -6) → SR (n, 0, B.2.2.1, B.2.2.2.1, B.2.2.2.2) S' ∧ TR (n, 0, B.2.2.1, B.2.2.2.1, B.2.2.2.2) N' T') → Q (vWall B n) S' T' (0, G.2.1, G.2.2)) (h0 : ¬ (2 ≤ n ∧ n ≤ 9) → Q (vWall B n) S T G) : wp_X6_wall S T G n Q := by
  unfold wp_X6_wall vWall at *
  refine s_isOutside hn (by decide) (by decide) (fun a b => ⟨fun _ => ?_, fun q => absurd rfl q⟩) (fun a => ⟨fun q => absurd q (by decide), fun _ => ?_⟩)
  · unfold wp_X5_empty
    refine s_fill ⟨by omega, by omega⟩ (fun f1 e1 _ => s_fill ⟨by omega, by omega⟩ (fun f2 e2 _ => ?_))
    have := h1 ⟨a, b⟩
    rw [if_pos ⟨a, b⟩] at this
    rw [hS.1]
    refine this _ _ (fun N' hN' => ⟨⟨rfl, rfl, hS.2.2⟩, ⟨S10_0, fun g g0 g1 => ?_⟩, fun g g0 g1 q => ?_, fun r c r0 r1 c0 c1 => ?_, fun c c0 c1 => ?_⟩)
    · rw [show sb ((0, T.2.1, T.2.2.1, f1, f2) : gWT).1 g = false from sb_0 g, decide_eq_false (by have := (hN' g g0 g1).1; omega)]
    · have := (hN' g g0 g1).1; omega
    · show f1 (r * 9 + c) = _
      rw [e1 _ (by omega) (by omega)]
      unfold cv
      rw [who_empty hN', if_neg (by omega)]
    · show f2 c = _
      rw [e2 _ (by omega) (by omega), hgt_empty hN']
  · have := h0 a
    rw [if_neg a] at this
    exact this
theorem s_X7_clear {B : gMB} {P : gMP} {G : gMG} {Q : gMB → gMP → gMG → Prop} (hz : Z10 P.1 ∧ Z10 P.2) (h : ∀ P' : gMP, (Z10 P'.1 ∧ Z10 P'.2) → (∀ g, 0 ≤ g → g < 10 → P'.1 g = -6 ∧ P'.2 g = -6) → Q (B.1, 0, B.2.2.1, B.2.2.2.1, B.2.2.2.2) P' (0, G.2)) : wp_X7_clear B P G Q := by
  unfold wp_X7_clear
  refine lp_inv (fun m i (P' : gMP) => wp_X7_clear_12 _ Q m i (B.1, 0, B.2.2.1, B.2.2.2.1, B.2.2.2.2) P' (0, G.2)) 10 (fun i P' => 0 ≤ i ∧ (Z10 P'.1 ∧ Z10 P'.2) ∧ ∀ g, 0 ≤ g → g < i → P'.1 g = -6 ∧ P'.2 g = -6) ?_ ?_ 0 P (by omega) ⟨by omega, hz, fun g _ _ => by omega⟩
  · rintro m P' ⟨hi, z, e⟩
    show wp_X7_clear_12 _ _ (m + 1) _ _ _ _
    unfold wp_X7_clear_12
    exact ⟨by decide, fun _ => h P' z e, fun q => absurd (Int.le_refl 10) q⟩
  · rintro m i P' hlt ⟨hi, z, e⟩ ih
    show wp_X7_clear_12 _ _ (m + 1) _ _ _ _
    unfold wp_X7_clear_12
    refine ⟨⟨by omega, by omega⟩, fun q => by omega, fun _ => ⟨⟨hi, hlt⟩, ih _ ⟨by omega, ⟨Z10_set z.1 ⟨hi, hlt⟩, Z10_set z.2 ⟨hi, hlt⟩⟩, fun g g0 g1 => ?_⟩⟩⟩
    by_cases eg : g = i
    · subst eg; exact ⟨aset_s, aset_s⟩
    · exact ⟨(aset_n eg).trans (e g g0 (by omega)).1, (aset_n eg).trans (e g g0 (by omega)).2⟩
theorem s_X7_wall {B : gMB} {P : gMP} {G : gMG} {n : Int} {Q : Int → gMB → gMP → gMG → Prop} (hz : Z10 P.1 ∧ Z10 P.2) (hn : rI n) (h1 : 2 ≤ n ∧ n ≤ 9 → ∀ P' : gMP, (Z10 P'.1 ∧ Z10 P'.2) → (∀ g, 0 ≤ g → g < 10 → P'.1 g = -6 ∧ P'.2 g = -6) → Q (vWall B n) (n, 0, B.2.2.1, B.2.2.2.1, B.2.2.2.2) P' (0, G.2)) (h0 : ¬ (2 ≤ n ∧ n ≤ 9) → Q (vWall B n) B P G) : wp_X7_wall B P G n Q := by
  unfold wp_X7_wall vWall at *
  refine s_X7_in hn (by decide) (by decide) (fun a b => ⟨fun _ => ?_, fun q => absurd (by decide) q⟩) (fun a => ⟨fun q => absurd rfl q, fun _ => ?_⟩)
  · have := h1 ⟨a, b⟩
    rw [if_pos ⟨a, b⟩] at this
    exact s_X7_clear hz this
  · have := h0 a
    rw [if_neg a] at this
    exact this
/-! a stone more at hand -/
def bgive (B : gMB) (g w h b : Int) : gMB := (B.1, ior B.2.1 (ishl 1 g), aset B.2.2.1 g w, aset B.2.2.2.1 g h, aset B.2.2.2.2 g b)
theorem cov_give {B : gMB} {N : gMN} {g w h b k c : Int} (hg : N.1 g < 0) : cov (bgive B g w h b) N k c ↔ cov B N k c := by
  by_cases e : k = g
  · subst e; exact ⟨fun q => absurd q (cov_out hg), fun q => absurd q (cov_out hg)⟩
  · unfold cov bgive
    dsimp only
    rw [aset_n e]
theorem who_give {B : gMB} {N : gMN} {g w h b r c : Int} (hg : N.1 g < 0) : who (bgive B g w h b) N r c = who B N r c := by
  refine itI_congr (fun k a _ _ => ?_)
  unfold whoF
  by_cases e : cov B N k c ∧ N.1 k = r
  · rw [if_pos e, if_pos ⟨(cov_give hg).mpr e.1, e.2⟩]
  · rw [if_neg e, if_neg (fun q => e ⟨(cov_give hg).mp q.1, q.2⟩)]
theorem hgt_give {B : gMB} {N : gMN} {g w h b c : Int} (hg : N.1 g < 0) : hgt (bgive B g w h b) N c = hgt B N c := by
  refine itI_congr (fun k a _ _ => ?_)
  unfold hgtF
  by_cases e : cov B N k c ∧ a ≤ N.1 k
  · rw [if_pos e, if_pos ⟨(cov_give hg).mpr e.1, e.2⟩]
  · rw [if_neg e, if_neg (fun q => e ⟨(cov_give hg).mp q.1, q.2⟩)]
theorem hld_give {B : gMB} {N : gMN} {g w h b k : Int} (hg : N.1 g < 0) (e : k ≠ g) : hld (bgive B g w h b) N k = hld B N k := by
  unfold hld
  rw [show (bgive B g w h b).2.2.1 k = B.2.2.1 k from aset_n e]
  refine itI_congr (fun c a _ _ => ?_)
  unfold hldF
  rw [who_give hg]
theorem ldA_give {B : gMB} {N : gMN} {g w h b : Int} (hg : N.1 g < 0) : ldA (bgive B g w h b) N = ldA B N := by
  refine itI_congr (fun k L k0 k1 => itI_congr (fun q M q0 q1 => ?_))
  by_cases e : q = g
  · subst e
    unfold ldG
    rw [if_neg (by omega), if_neg (by omega)]
  · unfold ldG
    rw [hld_give hg e]
    split
    · rw [show (bgive B g w h b).2.2.1 q = B.2.2.1 q from aset_n e, show ldS (bgive B g w h b) N q M = ldS B N q M by
        unfold ldS
        rw [hld_give hg e, show (bgive B g w h b).2.2.2.1 q = B.2.2.2.1 q from aset_n e]]
      refine itI_congr (fun c M2 _ _ => ?_)
      unfold ldC
      rw [who_give hg]
    · rfl
theorem inv_give {B : gMB} {N : gMN} {g w h b : Int} (hI : Inv B N) (g0 : 0 ≤ g) (g1 : g < 10) (hw : 1 ≤ w ∧ w ≤ 3) (hh : 1 ≤ h ∧ h ≤ 20) (hb : 0 ≤ b ∧ b ≤ 200) (hg : N.1 g < 0) : Inv (bgive B g w h b) N := by
  obtain ⟨hB, hN, hD, hS, hO⟩ := hI
  have hs : S10 (ishl 1 g) := S10_shl ⟨g0, g1⟩
  refine ⟨⟨hB.1, S10_or hB.2.1 hs, fun k k0 k1 => ?_⟩, ⟨hN.1, fun k k0 k1 => ?_⟩, fun k j k0 k1 j0 j1 a e ne => ?_, fun k k0 k1 a => ?_, fun k k0 k1 a => ?_⟩
  · show (0 ≤ aset B.2.2.1 g w k ∧ aset B.2.2.1 g w k ≤ 3) ∧ (0 ≤ aset B.2.2.2.1 g h k ∧ aset B.2.2.2.1 g h k ≤ 20) ∧ (0 ≤ aset B.2.2.2.2 g b k ∧ aset B.2.2.2.2 g b k ≤ 200) ∧ (sb (ior B.2.1 (ishl 1 g)) k = true → 1 ≤ aset B.2.2.1 g w k ∧ 1 ≤ aset B.2.2.2.1 g h k)
    by_cases e : k = g
    · subst e
      rw [aset_s, aset_s, aset_s]
      exact ⟨by omega, by omega, by omega, fun _ => by omega⟩
    · rw [aset_n e, aset_n e, aset_n e, sb_or hB.2.1 hs, sb_shl ⟨g0, g1⟩ k0, decide_eq_false (fun q : g = k => e q.symm), Bool.or_false]
      exact hB.2.2 k k0 k1
  · rcases hN.2 k k0 k1 with q | ⟨a1, a2, a3, a4, a5⟩
    · exact Or.inl q
    · have e : k ≠ g := fun e => by subst e; omega
      refine Or.inr ⟨a1, a2, a3, ?_, ?_⟩
      · rw [show (bgive B g w h b).2.2.1 k = B.2.2.1 k from aset_n e]; exact a4
      · show sb (ior B.2.1 (ishl 1 g)) k = true
        rw [sb_or hB.2.1 hs, a5]; rfl
  · have e1 : k ≠ g := fun e => by subst e; omega
    have e2 : j ≠ g := fun e => by subst e; omega
    rw [show (bgive B g w h b).2.2.1 k = B.2.2.1 k from aset_n e1, show (bgive B g w h b).2.2.1 j = B.2.2.1 j from aset_n e2]
    exact hD k j k0 k1 j0 j1 a e ne
  · obtain ⟨j, c, j0, j1, a2, a3⟩ := hS k k0 k1 a
    exact ⟨j, c, j0, j1, ⟨(cov_give hg).mpr a2.1, a2.2⟩, (cov_give hg).mpr a3⟩
  · have e : k ≠ g := fun e => by subst e; omega
    rw [ldA_give hg, show (bgive B g w h b).2.2.2.2 k = B.2.2.2.2 k from aset_n e]
    exact hO k k0 k1 a
theorem TR_give {B : gMB} {N : gMN} {T : gWT} {g w h b : Int} (hT : TR B N T) (hg : N.1 g < 0) : TR (bgive B g w h b) N T :=
  ⟨hT.1, hT.2.1, fun r c r0 r1 c0 c1 => by unfold cv; rw [who_give hg]; exact hT.2.2.1 r c r0 r1 c0 c1, fun c c0 c1 => by rw [hgt_give hg]; exact hT.2.2.2 c c0 c1⟩
def vGuest (B : gMB) (N : gMN) (g w h b : Int) : Int := if ¬ (0 ≤ g ∧ g ≤ 9) then -1 else if ¬ ((1 ≤ w ∧ w ≤ 3) ∧ (1 ≤ h ∧ h ≤ 20) ∧ (0 ≤ b ∧ b ≤ 200)) then -2 else if 0 ≤ N.1 g then -3 else popc (ior B.2.1 (ishl 1 g))
