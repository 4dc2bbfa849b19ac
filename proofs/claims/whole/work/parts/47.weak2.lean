/-! weak: the call -/
theorem pv_sc {c u l p : Int} (hc : 0 < c) : pv (c * u) (c * l) p = pv u l p := by
  have hg : ((Int.gcd (c * u) (c * l) : Nat) : Int) = c * (Int.gcd u l : Int) := by
    rw [Int.gcd_mul_left, Int.natCast_mul, Int.natAbs_of_nonneg (by omega)]
  unfold pv
  rw [hg, Int.mul_ediv_mul_of_pos _ _ hc, Int.mul_ediv_mul_of_pos _ _ hc]
theorem pv_cross {u l u' l' p : Int} (hl : 0 < l) (hl' : 0 < l') (h : u * l' = u' * l) : pv u l p = pv u' l' p := by
  rw [← pv_sc (c := l') (u := u) (l := l) hl', ← pv_sc (c := l) (u := u') (l := l') hl, Int.mul_comm l' u, h, Int.mul_comm u' l, Int.mul_comm l' l]
theorem wkS_r {B : gMB} {N : gMN} {t : Int} (ht : 0 ≤ t ∧ t ≤ 10) (k : Int) (h0 : 0 ≤ k) : ((1 ≤ (itI (wkS B N t) 0 k (1, 1, 0)).2.1 ∧ (itI (wkS B N t) 0 k (1, 1, 0)).2.1 ≤ 10 ^ k.toNat) ∧ (0 ≤ (itI (wkS B N t) 0 k (1, 1, 0)).1 ∧ (itI (wkS B N t) 0 k (1, 1, 0)).1 ≤ (itI (wkS B N t) 0 k (1, 1, 0)).2.1)) ∧ (0 ≤ (itI (wkS B N t) 0 k (1, 1, 0)).2.2 ∧ (itI (wkS B N t) 0 k (1, 1, 0)).2.2 ≤ k) := by
  refine itI_ind (P := fun (k : Int) (s : Int × Int × Int) => ((1 ≤ s.2.1 ∧ s.2.1 ≤ 10 ^ k.toNat) ∧ (0 ≤ s.1 ∧ s.1 ≤ s.2.1)) ∧ (0 ≤ s.2.2 ∧ s.2.2 ≤ k)) h0 ⟨⟨⟨by simp, by simp⟩, by simp, by simp⟩, by simp, by simp⟩ (fun k s k0 k1 hs => ?_)
  rw [show (k + 1).toNat = k.toNat + 1 by omega, Int.pow_succ]
  generalize (10 : Int) ^ k.toNat = z at *
  unfold wkS
  split
  · dsimp only
    have h1 := Int.mul_nonneg hs.1.2.1 (show 0 ≤ 10 - t by omega)
    have h2 := Int.mul_le_mul_of_nonneg_left (show 10 - t ≤ 10 by omega) hs.1.2.1
    refine ⟨⟨⟨by omega, by omega⟩, h1, by omega⟩, by omega, by omega⟩
  · refine ⟨⟨⟨by omega, by omega⟩, by omega, by omega⟩, by omega, by omega⟩
theorem wkP_r {N : gMN} (k : Int) (h0 : 0 ≤ k) : 1 ≤ itI (wkP N) 0 k 1 ∧ itI (wkP N) 0 k 1 ≤ 10 ^ k.toNat := by
  refine itI_ind (P := fun (k : Int) (s : Int) => 1 ≤ s ∧ s ≤ 10 ^ k.toNat) h0 ⟨by simp, by simp⟩ (fun k s k0 k1 hs => ?_)
  rw [show (k + 1).toNat = k.toNat + 1 by omega, Int.pow_succ]
  generalize (10 : Int) ^ k.toNat = z at *
  unfold wkP
  split <;> omega
def vWeak (B : gMB) (N : gMN) (t w p : Int) : Int := if ¬ (0 ≤ t ∧ t ≤ 10) then -1000000000000000002 else if ¬ (0 ≤ w ∧ w ≤ 1) then -1000000000000000002 else if ¬ (0 ≤ p ∧ p ≤ 1) then -1000000000000000002 else if w = 0 then pv (itI (wkS B N t) 0 10 (1, 1, 0)).1 (itI (wkS B N t) 0 10 (1, 1, 0)).2.1 p else pv ((itI (wkS B N t) 0 10 (1, 1, 0)).2.2 * t) 10 p
theorem s_weak {B : gMB} {N : gMN} {S : gWS} {T : gWT} {U : gWU} {t w p : Int} {Q : Int → gWU → Prop} (hI : Inv B N) (hS : SR B S) (hT : TR B N T) (rt : rI t) (rw_ : rI w) (rp : rI p) (h : ∀ U', Q (vWeak B N t w p) U') : wp_X6_weak S T U t w p Q := by
  have hB := hI.1
  unfold wp_X6_weak vWeak at *
  refine s_isOutside rt (by decide) (by decide) (fun a0 a1 => ⟨fun q => absurd rfl q, fun _ => ?_⟩) (fun z => ⟨fun _ => ?_, fun q => absurd (by decide) q⟩)
  · rw [if_neg (fun q => q ⟨a0, a1⟩)] at h
    refine s_isOutside rw_ (by decide) (by decide) (fun b0 b1 => ⟨fun q => absurd rfl q, fun _ => ?_⟩) (fun z => ⟨fun _ => ?_, fun q => absurd (by decide) q⟩)
    · rw [if_neg (fun q => q ⟨b0, b1⟩)] at h
      refine s_isOutside rp (by decide) (by decide) (fun c0 c1 => ⟨fun _ => ?_, fun q => absurd rfl q⟩) (fun z => ⟨fun q => absurd q (by decide), fun _ => ?_⟩)
      · rw [if_neg (fun q => q ⟨c0, c1⟩)] at h
        refine s_weigh hB hI.2.1 hS hT (fun U5 hU5 => ?_)
        refine lp_inv (fun m i (s : Int × Int × Int) => wp_X6_weak_51 S T _ Q m t w p s.1 s.2.1 s.2.2 i U5) 10 (fun i s => 0 ≤ i ∧ s = itI (wkS B N t) 0 i (1, 1, 0)) ?_ ?_ 0 (1, 1, 0) (by omega) ⟨by omega, (itI_0 (by omega)).symm⟩
        · rintro m s ⟨_, e⟩
          have hr := wkS_r (B := B) (N := N) ⟨a0, a1⟩ 10 (by omega)
          rw [← e] at h hr
          rw [show (10 : Int) ^ (10 : Int).toNat = 10000000000 from rfl] at hr
          have ht := mul_r hr.2.1 hr.2.2 a0 a1
          show wp_X6_weak_51 S T _ Q (m + 1) t w p s.1 s.2.1 s.2.2 10 U5
          unfold wp_X6_weak_51
          refine ⟨by decide, fun _ => ⟨rw_, fun y => ⟨⟨by omega, by omega⟩, ?_⟩, fun y => ?_⟩, fun q => absurd (Int.le_refl 10) q⟩
          · rw [if_neg y] at h
            exact s_lowest ⟨by omega, by omega⟩ ⟨by decide, by decide⟩ rp (h _)
          · rw [if_pos (Decidable.of_not_not y)] at h
            exact s_lowest ⟨by omega, by omega⟩ ⟨by omega, by omega⟩ rp (h _)
        · rintro m i s hlt ⟨i0, e⟩ ih
          have next : itI (wkS B N t) 0 (i + 1) (1, 1, 0) = wkS B N t i s := by rw [itI_s i0, ← e]
          have hb := (hB.2.2 i i0 hlt).2.2.1
          have hd : 0 ≤ (B.2.2.2.2 i).tdiv 2 ∧ (B.2.2.2.2 i).tdiv 2 ≤ 100 := by rw [Int.tdiv_eq_ediv_of_nonneg hb.1]; omega
          have hl := ldA_r (N := N) hB i0 hlt
          have hu := hU5 i i0 hlt
          show wp_X6_weak_51 S T _ Q (m + 1) t w p s.1 s.2.1 s.2.2 i U5
          unfold wp_X6_weak_51
          refine ⟨⟨by omega, by omega⟩, fun q => by omega, fun _ => s_isLaid hT i0 hlt (fun a => ⟨fun q => absurd q (by decide), fun _ => ?_⟩) (fun a => ⟨fun _ => ih s ⟨by omega, ?_⟩, fun q => absurd rfl q⟩)⟩
          · refine s_atL ⟨i0, hlt⟩ (by omega) (s_at ⟨i0, hlt⟩ (by omega) ?_)
            rw [(hS.2.2 i i0 hlt).2.2]
            refine ⟨⟨by omega, by omega⟩, ⟨by omega, by omega⟩, ⟨by omega, by omega⟩, ⟨by omega, by omega⟩, fun y => ih s ⟨by omega, ?_⟩, fun y => ⟨⟨by omega, by omega⟩, ih (s.1 * (10 - t), s.2.1 * 10, s.2.2 + 1) ⟨by omega, ?_⟩⟩⟩
            · rw [next]; exact (if_neg (fun q => by omega)).symm
            · rw [next]; exact (if_pos ⟨a, by omega⟩).symm
          · rw [next]; exact (if_neg (fun q => by omega)).symm
      · rw [if_pos z] at h; exact h _
    · rw [if_pos z] at h; exact h _
  · rw [if_pos z] at h; exact h _
theorem wkW_0 {N : gMN} {t s i : Int} (i0 : 0 ≤ i) (hs : sb s i = true) (hN : N.1 i < 0) (k : Int) (hk : i < k) : wkW N t k s = 0 := by
  unfold wkW
  rw [itI_split (mid := i + 1) (by omega) (by omega), itI_s i0]
  have e : wkWF N t s i (itI (wkWF N t s) 0 i 1) = 0 := by
    unfold wkWF
    rw [if_pos hs]
    unfold wk1
    rw [if_neg (by omega), Int.mul_zero]
  rw [e]
  exact itI_id (fun j _ _ => by unfold wkWF; rw [Int.zero_mul])
def wkV (B : gMB) (N : gMN) (t w s : Int) : Int := if w = 1 then wkW N t 10 s * wkN B N 10 s else if wkN B N 10 s = 0 then wkW N t 10 s else 0
theorem s_X7_weak {B : gMB} {P : gMP} {N : gMN} {L : gML} {t w p : Int} {Q : Int → gMN → gML → Prop} (hI : Inv B P) (hN : Scr N L) (rt : rI t) (rw_ : rI w) (rp : rI p) (h : ∀ N' L', Scr N' L' → Q (vWeak B P t w p) N' L') : wp_X7_weak B P N L t w p Q := by
  have hB := hI.1
  have hR := hI.2.1.nr hB
  unfold wp_X7_weak vWeak at *
  refine s_X7_in rt (by decide) (by decide) (fun a0 a1 => ⟨fun q => absurd q (by decide), fun _ => ?_⟩) (fun z => ⟨fun _ => ?_, fun q => absurd rfl q⟩)
  · rw [if_neg (fun q => q ⟨a0, a1⟩)] at h
    refine s_X7_in rw_ (by decide) (by decide) (fun b0 b1 => ⟨fun q => absurd q (by decide), fun _ => ?_⟩) (fun z => ⟨fun _ => ?_, fun q => absurd rfl q⟩)
    · rw [if_neg (fun q => q ⟨b0, b1⟩)] at h
      refine s_X7_in rp (by decide) (by decide) (fun c0 c1 => ⟨fun _ => ?_, fun q => absurd (by decide) q⟩) (fun z => ⟨fun q => absurd rfl q, fun _ => ?_⟩)
      · rw [if_neg (fun q => q ⟨c0, c1⟩)] at h
        have h := h P (ldA B P) ⟨hI.2.1.1, ldA_z hB⟩
        refine s_X7_asNow hI.2.1.1 hN.1 (s_X7_layLoads hB hR hN.2 ?_)
        have hlb := lb_S (N := P) 10 (by omega) (by omega)
        refine lp_inv (fun m i (x : Int) => wp_X7_weak_46 _ Q m t w p x i P (ldA B P)) 10 (fun i x => 0 ≤ i ∧ x = itI (lbF P) 0 i 0) ?_ ?_ 0 0 (by omega) ⟨by omega, (itI_0 (by omega)).symm⟩
        · rintro m x ⟨_, e⟩
          show wp_X7_weak_46 _ Q (m + 1) t w p x 10 P (ldA B P)
          unfold wp_X7_weak_46
          refine ⟨by decide, fun _ => ?_, fun q => absurd (Int.le_refl 10) q⟩
          rw [← e] at hlb
          have hx := hlb.1
          have hp := popc_r x
          refine lp_inv (fun m i (y : Int) => wp_X7_weak_87 _ Q m t w p x y i P (ldA B P)) (popc x) (fun i y => 0 ≤ i ∧ y = itI (fun _ a => a * 10) 0 i 1) ?_ ?_ 0 1 hp.1 ⟨by omega, (itI_0 (by omega)).symm⟩
          · rintro m y ⟨i0, e2⟩
            have ey : y = itI (wkP P) 0 10 1 := by
              have hh := itI_rel (f := fun k a => a + bI (sb x k)) (g := wkP P) (lo := 0) (hi := 10) (s := 0) (t := 1) (fun k (a b : Int) => 0 ≤ a ∧ b = itI (fun _ a => a * 10) 0 a 1) (by omega) ⟨by omega, (itI_0 (by omega)).symm⟩ (fun k a b k0 k1 ⟨ha, hb⟩ => by
                rw [hlb.2 k k0 k1, decide_eq_true (p := k < 10) k1, Bool.true_and]
                unfold wkP
                by_cases q : 0 ≤ P.1 k
                · rw [decide_eq_true q, if_pos q]
                  refine ⟨by show 0 ≤ a + 1; omega, ?_⟩
                  show b * 10 = itI _ 0 (a + 1) 1
                  rw [itI_s ha, ← hb]
                · rw [decide_eq_false q, if_neg q]
                  refine ⟨by show 0 ≤ a + 0; omega, ?_⟩
                  show b = itI _ 0 (a + 0) 1
                  rw [Int.add_zero]; exact hb)
              rw [e2]; exact hh.2.symm
            have hy := wkP_r (N := P) 10 (by omega)
            rw [← ey, show (10 : Int) ^ (10 : Int).toNat = 10000000000 from rfl] at hy
            show wp_X7_weak_87 _ Q (m + 1) t w p x y (popc x) P (ldA B P)
            unfold wp_X7_weak_87
            refine s_X7_bits hx ⟨⟨by omega, by omega⟩, ⟨by omega, by omega⟩, fun _ => ?_, fun q => absurd (Int.le_refl _) q⟩
            refine lp_inv (fun m s (v : Int) => wp_X7_weak_117 B _ Q m t w p x y v s P (ldA B P)) 1024 (fun s v => 0 ≤ s ∧ v = sm (wkV B P t w) 0 s) ?_ ?_ 0 0 (by omega) ⟨by omega, (sm_0 (by omega)).symm⟩
            · rintro m v ⟨_, e3⟩
              show wp_X7_weak_117 B _ Q (m + 1) t w p x y v 1024 P (ldA B P)
              unfold wp_X7_weak_117
              refine ⟨by decide, fun _ => ?_, fun q => absurd (Int.le_refl _) q⟩
              obtain ⟨f1, f2, f3⟩ := wk_all (B := B) (N := P) (t := t) 10 (by omega)
              have hr := wkS_r (B := B) (N := P) ⟨a0, a1⟩ 10 (by omega)
              rw [show (10 : Int) ^ (10 : Int).toNat = 10000000000 from rfl] at hr
              rw [← ey] at f1 f2 f3
              by_cases z : w = 0
              · rw [if_pos z] at h
                have ev : v = wkZ B P t 10 := by
                  rw [e3]
                  exact sm_congr (fun s _ _ => by unfold wkV; rw [if_neg (by omega)])
                rw [← ev] at f2
                generalize itI (wkS B P t) 0 10 (1, 1, 0) = r at *
                have v0 : 0 ≤ v := by
                  refine Int.le_of_mul_le_mul_left (a := r.2.1) ?_ (by omega)
                  rw [f2, Int.mul_zero]; exact Int.mul_nonneg hr.1.2.1 (by omega)
                have v1 : v ≤ y := by
                  refine Int.le_of_mul_le_mul_left (a := r.2.1) ?_ (by omega)
                  rw [f2]; exact Int.mul_le_mul_of_nonneg_right hr.1.2.2 (by omega)
                refine s_X7_part ⟨v0, by omega⟩ ⟨by omega, by omega⟩ rp ?_
                rw [pv_cross (u := v) (l := y) (u' := r.1) (l' := r.2.1) (by omega) (by omega) (by rw [Int.mul_comm v]; exact f2)]
                exact h
              · rw [if_neg z] at h
                have ev : v = wkM B P t 10 := by
                  rw [e3]
                  exact sm_congr (fun s _ _ => by unfold wkV; rw [if_pos (by omega)])
                rw [← ev] at f3
                generalize itI (wkS B P t) 0 10 (1, 1, 0) = r at *
                have ht := mul_r hr.2.1 hr.2.2 a0 a1
                have ht2 := mul_r ht.1 ht.2 (show 0 ≤ y by omega) hy.2
                refine s_X7_part ⟨by omega, by omega⟩ ⟨by omega, by omega⟩ rp ?_
                rw [pv_cross (u := v) (l := y) (u' := r.2.2 * t) (l' := 10) (by omega) (by omega) (by rw [Int.mul_comm v]; exact f3)]
                exact h
            · rintro m s v hlt ⟨s0, e3⟩ ih
              have hs : S10 s := ⟨s0, hlt⟩
              have next : sm (wkV B P t w) 0 (s + 1) = v + wkV B P t w s := by rw [sm_s s0, ← e3]
              have hz := S10_andn hs hx
              show wp_X7_weak_117 B _ Q (m + 1) t w p x y v s P (ldA B P)
              unfold wp_X7_weak_117
              refine ⟨⟨by omega, by omega⟩, fun q => by omega, fun _ => ⟨⟨by have := hz.1; omega, by have := hz.2; omega⟩, fun z => ih v ⟨by omega, ?_⟩, fun z => ?_⟩⟩
              · obtain ⟨g, g0, g1, hg⟩ : ∃ g, 0 ≤ g ∧ g < 10 ∧ sb (iand s (ixor x (-1))) g = true := by
                  refine Classical.byContradiction fun q => z (sb_ext hz S10_0 fun g g0 g1 => ?_)
                  rw [sb_0]
                  cases hb : sb (iand s (ixor x (-1))) g
                  · rfl
                  · exact absurd ⟨g, g0, g1, hb⟩ q
                rw [sb_andn hs hx, hlb.2 g g0 g1, decide_eq_true (p := g < 10) g1, Bool.true_and, Bool.and_eq_true, Bool.not_eq_true', decide_eq_false_iff_not] at hg
                have e0 := wkW_0 (N := P) (t := t) g0 hg.1 (by omega) 10 g1
                rw [next]
                unfold wkV
                rw [e0, Int.zero_mul]
                split
                · omega
                · split <;> omega
              · have z := Decidable.of_not_not z
                have sub : ∀ g, 0 ≤ g → g < 10 → sb s g = true → 0 ≤ P.1 g := fun g g0 g1 hg => by
                  have e4 := sb_andn (g := g) hs hx
                  rw [z, sb_0, hg, hlb.2 g g0 g1, decide_eq_true (p := g < 10) g1, Bool.true_and, Bool.true_and] at e4
                  refine Decidable.byContradiction fun q => ?_
                  rw [decide_eq_false q] at e4
                  exact absurd e4 (by decide)
                refine lp_inv (fun m i (r : Int × Int) => wp_X7_weak_144 B _ Q m t w p x y v s r.1 r.2 i P (ldA B P)) 10 (fun i r => 0 ≤ i ∧ r.1 = wkW P t i s ∧ r.2 = wkN B P i s) ?_ ?_ 0 (1, 0) (by omega) ⟨by omega, (itI_0 (by omega)).symm, (itI_0 (by omega)).symm⟩
                · rintro n r ⟨_, f1, f2⟩
                  have hn := wkN_r (B := B) (N := P) (s := s) 10 (by omega)
                  rw [← f2] at hn
                  show wp_X7_weak_144 B _ Q (n + 1) t w p x y v s r.1 r.2 10 P (ldA B P)
                  unfold wp_X7_weak_144
                  refine ⟨by decide, fun _ => ⟨rw_, fun a => ⟨⟨by omega, by omega⟩, fun b => ih _ ⟨by omega, ?_⟩, fun b => ih _ ⟨by omega, ?_⟩⟩, fun a => ⟨⟨by omega, by omega⟩, ih _ ⟨by omega, ?_⟩⟩⟩, fun q => absurd (Int.le_refl _) q⟩
                  · rw [next]; unfold wkV; rw [if_neg a, ← f2, if_neg b]
                  · rw [next]; unfold wkV; rw [if_neg a, ← f2, if_pos (Decidable.of_not_not b), f1]
                  · rw [next]; unfold wkV; rw [if_pos (Decidable.of_not_not a), ← f2, ← f1]
                · rintro n i r hi ⟨i0, f1, f2⟩ ih2
                  have n1 : wkW P t (i + 1) s = wkWF P t s i r.1 := by unfold wkW; rw [itI_s i0]; congr 1; exact f1.symm
                  have n2 : wkN B P (i + 1) s = wkNF B P s i r.2 := by unfold wkN; rw [itI_s i0]; congr 1; exact f2.symm
                  have hb := (hB.2.2 i i0 hi).2.2.1
                  have hd : 0 ≤ (B.2.2.2.2 i).tdiv 2 ∧ (B.2.2.2.2 i).tdiv 2 ≤ 100 := by rw [Int.tdiv_eq_ediv_of_nonneg hb.1]; omega
                  have hl := ldA_r (N := P) hB i0 hi
                  show wp_X7_weak_144 B _ Q (n + 1) t w p x y v s r.1 r.2 i P (ldA B P)
                  unfold wp_X7_weak_144
                  refine ⟨⟨by omega, by omega⟩, fun q => by omega, fun _ => s_X7_isIn hR ⟨i0, hi⟩ (fun a => ⟨fun q => absurd q (by decide), fun _ => ?_⟩) (fun a => ⟨fun _ => ih2 r ⟨by omega, ?_, ?_⟩, fun q => absurd rfl q⟩)⟩
                  · refine s_X7_has hs ⟨i0, hi⟩ (fun f => ⟨fun q => absurd q (by decide), fun _ => ⟨rt, ?_⟩⟩) (fun f => ⟨fun _ => ⟨⟨by omega, by omega⟩, ?_⟩, fun q => absurd rfl q⟩)
                    · unfold wp_X7_weak_182
                      refine ⟨⟨i0, hi⟩, s_X7_has hs ⟨i0, hi⟩ (fun _ => ⟨fun q => absurd q (by decide), fun _ => ⟨⟨by omega, by omega⟩, ?_⟩⟩) (fun f' => by rw [f] at f'; exact absurd f' (by decide))⟩
                      unfold wp_X7_weak_226
                      have w1 : wkWF P t s i r.1 = r.1 * t := by unfold wkWF wk1; rw [if_pos f, if_pos a]
                      refine ⟨⟨by omega, by omega⟩, ⟨by omega, by omega⟩, ⟨by omega, by omega⟩, fun q => ih2 (r.1 * t, r.2 + 0) ⟨by omega, by rw [n1, w1], ?_⟩, fun q => ih2 (r.1 * t, r.2 + 1) ⟨by omega, by rw [n1, w1], ?_⟩⟩
                      · rw [n2]; unfold wkNF wkD; rw [if_pos f, if_neg (fun z => by omega)]
                      · rw [n2]; unfold wkNF wkD; rw [if_pos f, if_pos ⟨a, by omega⟩]
                    · have f' : ¬ sb s i = true := by rw [f]; decide
                      unfold wp_X7_weak_182
                      refine ⟨⟨i0, hi⟩, s_X7_has hs ⟨i0, hi⟩ (fun f2 => absurd f2 f') (fun _ => ⟨fun _ => ?_, fun q => absurd rfl q⟩)⟩
                      unfold wp_X7_weak_226
                      have ho := hI.2.2.2.2 i i0 hi a
                      have w1 : wkWF P t s i r.1 = r.1 * (10 - t) := by unfold wkWF wk0; rw [if_neg f', if_pos a]
                      refine ⟨⟨by omega, by omega⟩, ⟨by omega, by omega⟩, ⟨by omega, by omega⟩, fun q => ih2 (r.1 * (10 - t), r.2 + 0) ⟨by omega, by rw [n1, w1], ?_⟩, fun q => absurd ho q⟩
                      rw [n2]; unfold wkNF; rw [if_neg f', Int.add_zero]
                  · have f' : ¬ sb s i = true := fun q => by have := sub i i0 hi q; omega
                    rw [n1]; unfold wkWF wk0; rw [if_neg f', if_neg (by omega), Int.mul_one]
                  · have f' : ¬ sb s i = true := fun q => by have := sub i i0 hi q; omega
                    rw [n2]; unfold wkNF; rw [if_neg f']
          · rintro m i y hlt ⟨i0, e2⟩ ih
            show wp_X7_weak_87 _ Q (m + 1) t w p x y i P (ldA B P)
            unfold wp_X7_weak_87
            refine s_X7_bits hx ⟨⟨by omega, by omega⟩, ⟨by omega, by omega⟩, fun q => by omega, fun _ => ih (y * 10) ⟨by omega, ?_⟩⟩
            rw [itI_s i0, ← e2]
        · rintro m i x hlt ⟨i0, e⟩ ih
          have next : itI (lbF P) 0 (i + 1) 0 = lbF P i x := by rw [itI_s i0, ← e]
          show wp_X7_weak_46 _ Q (m + 1) t w p x i P (ldA B P)
          unfold wp_X7_weak_46
          refine ⟨⟨by omega, by omega⟩, fun q => by omega, fun _ => s_X7_isIn hR ⟨i0, hlt⟩ (fun a => ⟨fun q => absurd q (by decide), fun _ => ih _ ⟨by omega, ?_⟩⟩) (fun a => ⟨fun _ => ih _ ⟨by omega, ?_⟩, fun q => absurd rfl q⟩)⟩
          · rw [next]; exact (if_neg (by omega)).symm
          · rw [next]; exact (if_pos (by omega)).symm
      · rw [if_pos z] at h; exact h _ _ hN
    · rw [if_pos z] at h; exact h _ _ hN
  · rw [if_pos z] at h; exact h _ _ hN
