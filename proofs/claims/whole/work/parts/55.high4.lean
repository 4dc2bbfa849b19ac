/-! high: the reference's call -/
theorem s_X7_outside {B : gMB} {P : gMP} {Q : Int → Prop} (hB : BOk B) (hR : NR B P) (h : Q (frs B P)) : wp_X7_outside B P Q := by
  unfold wp_X7_outside
  refine lp_inv (fun m i (x : Int) => wp_X7_outside_4 B P (fun x1 => Q x1) Q m x i) 10 (fun i x => 0 ≤ i ∧ S10 x ∧ ∀ g, 0 ≤ g → g < 10 → sb x g = (decide (g < i) && sb (frs B P) g)) ?_ ?_ 0 0 (by omega) ⟨by omega, S10_0, fun g g0 g1 => by rw [sb_0, decide_eq_false (by omega)]; rfl⟩
  · rintro m x ⟨_, hx, e⟩
    show wp_X7_outside_4 B P _ Q (m + 1) x 10
    unfold wp_X7_outside_4
    refine ⟨by decide, fun _ => ?_, fun q => absurd (Int.le_refl _) q⟩
    rw [sb_ext hx (frs_S hB) (fun g g0 g1 => by rw [e g g0 g1, decide_eq_true g1, Bool.true_and])]; exact h
  · rintro m i x hlt ⟨i0, hx, e⟩ ih
    have hr := hR i i0 hlt
    have hb := S10_shl ⟨i0, hlt⟩
    have no : sb (frs B P) i = false → wp_X7_outside_4 B P (fun x1 => Q x1) Q m (ior x 0) (i + 1) := fun z => ih _ ⟨by omega, S10_or hx S10_0, fun g g0 g1 => by
      rw [sb_or hx S10_0, sb_0, Bool.or_false, e g g0 g1]
      by_cases q : g = i
      · subst q; rw [z, Bool.and_false, Bool.and_false]
      · congr 1; exact decide_eq_decide.mpr (by omega)⟩
    show wp_X7_outside_4 B P _ Q (m + 1) x i
    unfold wp_X7_outside_4
    refine ⟨⟨by omega, by omega⟩, fun q => by omega, fun _ => s_X7_has hB.2.1 ⟨i0, hlt⟩ (fun f => ⟨fun q => absurd q (by decide), fun _ => ⟨⟨i0, hlt⟩, ⟨by omega, by omega⟩, fun z => no ?_, fun z => ih _ ⟨by omega, S10_or hx hb, fun g g0 g1 => ?_⟩⟩⟩) (fun f => ⟨fun _ => no ?_, fun q => absurd rfl q⟩)⟩
    · rw [sb_frs hB i0 hlt, decide_eq_true z]; simp
    · rw [sb_or hx hb, sb_shl ⟨i0, hlt⟩ g0, e g g0 g1]
      by_cases q : i = g
      · subst q; rw [decide_eq_true rfl, Bool.or_true, decide_eq_true (p := i < i + 1) (by omega), sb_frs hB i0 hlt, f, decide_eq_false z]; rfl
      · rw [decide_eq_false q, Bool.or_false]; congr 1; exact decide_eq_decide.mpr (by omega)
    · rw [sb_frs hB i0 hlt, f]; rfl
theorem p100_3 {j : Nat} (h : j ≤ 3) : 1 ≤ p100 j ∧ p100 j ≤ 1000000 := by
  have h0 := p100_pos j
  refine ⟨by omega, ?_⟩
  have : (100 : Nat) ^ j ≤ 100 ^ 3 := Nat.pow_le_pow_right (by omega) h
  unfold p100
  have e : (100 : Int) ^ j = ((100 ^ j : Nat) : Int) := by norm_cast
  rw [e]
  omega
theorem div_p100 {x : Int} {t : Nat} : x / p100 t / 100 = x / p100 (t + 1) := by
  rw [Int.ediv_ediv_of_nonneg (by have := p100_pos t; omega), p100_s, Int.mul_comm]
theorem s_X7_putsByZ {B : gMB} {P : gMP} {N : gMN} {L : gML} {Z : gMZ} {x : Int} {m : Nat} {Q : Int → gMN → gML → gMZ → Prop} (hI : Inv B P) (hN : Scr N L) (hm : m ≤ 3) (x0 : 0 ≤ x) (x1 : x < p100 m) (h1 : shq B m P x = true → ∀ L' Z', Inv B (shf B m P x) → Z10 L' → (∀ k : Nat, k < m → Z' k = x / p100 k % 10) → Q 1 (shf B m P x) L' Z') (h0 : shq B m P x = false → ∀ N' L' Z', Scr N' L' → Q 0 N' L' Z') : wp_X7_putsBy B P N L Z x m Q := by
  have hB := hI.1
  have hn := hB.1
  have hp3 := p100_3 hm
  have hR := hI.2.1.nr hB
  unfold wp_X7_putsBy
  refine lp_inv (fun n i (s : Int × Int × Int × gMZ) => wp_X7_putsBy_11 B P _ Q n x m s.1 s.2.1 s.2.2.1 i N L s.2.2.2) m (fun i s => ∃ t j : Nat, i = t ∧ t + j = m ∧ s.1 = x / p100 t ∧ S10 s.2.1 ∧ (∀ k : Nat, k < t → s.2.2.2 k = x / p100 k % 10) ∧ ((s.2.2.1 = 0 ∧ shq B m P x = false) ∨ (s.2.2.1 = 1 ∧ (shq B m P x = false ∨ ∃ M, Inv B M ∧ shq B j M s.1 = shq B m P x ∧ ∀ g, 0 ≤ g → g < 10 → (0 ≤ M.1 g ↔ (0 ≤ P.1 g ∨ sb s.2.1 g = true)))))) ?_ ?_ 0 (x, 0, 1, Z) (by omega) ⟨0, m, rfl, by omega, by rw [show p100 0 = 1 from rfl, Int.ediv_one], S10_0, fun k hk => by omega, Or.inr ⟨rfl, Or.inr ⟨P, hI, rfl, fun g g0 g1 => ⟨fun q => Or.inl q, fun q => by
      rcases q with q | q
      · exact q
      · rw [show sb ((x, 0, 1, Z) : Int × Int × Int × gMZ).2.1 g = false from sb_0 g] at q; exact absurd q (by decide)⟩⟩⟩⟩
  · rintro n ⟨x3, x4, x5, Z3⟩ ⟨t, j, et, ej, e3, s4, ez, hf⟩
    dsimp only at e3 s4 ez hf
    have et : t = m := by omega
    subst et
    show wp_X7_putsBy_11 B P _ Q (n + 1) x t x3 x4 x5 t N L Z3
    unfold wp_X7_putsBy_11
    refine ⟨⟨by omega, by omega⟩, ⟨by omega, by omega⟩, fun _ => ?_, fun q => absurd (Int.le_refl _) q⟩
    unfold wp_X7_putsBy_126
    rcases hf with ⟨z, hf⟩ | ⟨z, _⟩
    · rw [z]; exact ⟨by decide, fun q => absurd rfl q, fun _ => h0 hf N L Z3 hN⟩
    · rw [z]
      refine ⟨by decide, fun _ => s_X7_asNow hI.2.1.1 hN.1 ?_, fun q => absurd (by decide) q⟩
      refine lp_inv (fun n2 i (s : Int × Int × gMN × gML) => wp_X7_putsBy_142 B _ Q n2 t s.1 s.2.1 i s.2.2.1 s.2.2.2 Z3) t (fun i s => ∃ u j : Nat, i = u ∧ u + j = t ∧ s.1 = x / p100 u ∧ ((s.2.1 = 1 ∧ Inv B s.2.2.1 ∧ Z10 s.2.2.2 ∧ shq B j s.2.2.1 s.1 = shq B t P x ∧ shf B j s.2.2.1 s.1 = shf B t P x) ∨ (s.2.1 = 0 ∧ Scr s.2.2.1 s.2.2.2 ∧ shq B t P x = false))) ?_ ?_ 0 (x, 1, P, L) (by omega) ⟨0, t, rfl, by omega, by rw [show p100 0 = 1 from rfl, Int.ediv_one], Or.inl ⟨rfl, hI, hN.2, rfl, rfl⟩⟩
      · rintro n2 ⟨y3, y5, N5, L5⟩ ⟨u, j, eu, ej, e3, hf⟩
        dsimp only at e3 hf
        have eu : u = t := by omega
        have j0 : j = 0 := by omega
        subst eu; subst j0
        show wp_X7_putsBy_142 B _ Q (n2 + 1) u y3 y5 u N5 L5 Z3
        unfold wp_X7_putsBy_142
        refine ⟨⟨by omega, by omega⟩, ⟨by omega, by omega⟩, fun _ => ?_, fun q => absurd (Int.le_refl _) q⟩
        rcases hf with ⟨z, hI5, hz5, f1, f2⟩ | ⟨z, hs5, f1⟩
        · have f2 : N5 = shf B u P x := f2
          rw [z]
          refine ⟨Or.inr rfl, ?_⟩
          rw [f2] at hI5 ⊢
          exact h1 f1.symm L5 Z3 hI5 hz5 ez
        · rw [z]; exact ⟨Or.inl rfl, h0 f1 N5 L5 Z3 hs5⟩
      · rintro n2 i ⟨y3, y5, N5, L5⟩ hi ⟨u, j, eu, ej, e3, hf⟩ ih
        dsimp only at e3 hf
        obtain ⟨j, rfl⟩ : ∃ j', j = j' + 1 := ⟨j - 1, by omega⟩
        subst eu
        have hpu := p100_pos u
        have y0 : 0 ≤ y3 := by rw [e3]; exact Int.ediv_nonneg x0 (by omega)
        have y1 : y3 ≤ x := by rw [e3]; exact Int.ediv_le_self _ x0
        show wp_X7_putsBy_142 B _ Q (n2 + 1) t y3 y5 u N5 L5 Z3
        unfold wp_X7_putsBy_142
        rw [Int.tdiv_eq_ediv_of_nonneg y0, Int.tdiv_eq_ediv_of_nonneg y0, Int.tmod_eq_emod_of_nonneg (by omega)]
        rcases hf with ⟨z, hI5, hz5, f1, f2⟩ | ⟨z, hs5, f1⟩
        · rw [z]
          have eg : Z3 u = y3 % 10 := by rw [ez u (by omega), e3]
          have hI6 := inv_put (c := y3 / 10 % 10) hI5 (show 0 ≤ y3 % 10 by omega) (by omega) (by omega)
          have hpr := mput_r B N5 (y3 % 10) (y3 / 10 % 10)
          have f1 : (decide ((mput B N5 (y3 % 10) (y3 / 10 % 10)).1 = 0) && shq B j (mput B N5 (y3 % 10) (y3 / 10 % 10)).2 (y3 / 100)) = shq B t P x := f1
          rw [eg]
          refine ⟨⟨by omega, by omega⟩, ⟨by omega, by omega⟩, fun q => by omega, fun _ => ⟨by decide, fun q => absurd q (by decide), fun _ => ⟨⟨by omega, by omega⟩, ⟨by omega, by omega⟩, ⟨by omega, by omega⟩, s_X7_put hI5 hz5 (by omega) (by omega) ⟨by omega, by omega⟩ (fun L6 hz6 => ⟨⟨by omega, by omega⟩, fun y => ih (y3 / 100, 0, _, L6) ⟨u + 1, j, by omega, by omega, by rw [e3]; exact div_p100, Or.inr ⟨rfl, ⟨hI6.2.1.1, hz6⟩, ?_⟩⟩, fun y => ih (y3 / 100, 1, _, L6) ⟨u + 1, j, by omega, by omega, by rw [e3]; exact div_p100, Or.inl ⟨rfl, hI6, hz6, ?_, f2⟩⟩⟩)⟩⟩⟩
          · rw [← f1, decide_eq_false y]; rfl
          · rw [← f1, decide_eq_true (Decidable.of_not_not y)]; rfl
        · rw [z]
          exact ⟨⟨by omega, by omega⟩, ⟨by omega, by omega⟩, fun q => by omega, fun _ => ⟨by decide, fun _ => ⟨Or.inl rfl, h0 f1 N5 L5 Z3 hs5⟩, fun q => absurd rfl q⟩⟩
  · rintro n i ⟨x3, x4, x5, Z3⟩ hi ⟨t, j, et, ej, e3, s4, ez, hf⟩ ih
    dsimp only at e3 s4 ez hf
    obtain ⟨j, rfl⟩ : ∃ j', j = j' + 1 := ⟨j - 1, by omega⟩
    subst et
    have hpt := p100_pos t
    have y0 : 0 ≤ x3 := by rw [e3]; exact Int.ediv_nonneg x0 (by omega)
    have y1 : x3 ≤ x := by rw [e3]; exact Int.ediv_le_self _ x0
    have hg : 0 ≤ x3 % 10 ∧ x3 % 10 < 10 := by omega
    have hr := hR (x3 % 10) hg.1 hg.2
    show wp_X7_putsBy_11 B P _ Q (n + 1) x m x3 x4 x5 t N L Z3
    unfold wp_X7_putsBy_11
    rw [Int.tdiv_eq_ediv_of_nonneg y0, Int.tmod_eq_emod_of_nonneg y0, Int.tmod_eq_emod_of_nonneg (by omega), aset_s]
    rcases hf with ⟨z, hf⟩ | ⟨z, hf⟩
    · rw [z]
      refine ⟨⟨by omega, by omega⟩, ⟨by omega, by omega⟩, fun q => by omega, fun _ => ⟨by decide, fun _ => ?_, fun q => absurd rfl q⟩⟩
      unfold wp_X7_putsBy_126
      exact ⟨by decide, fun q => absurd rfl q, fun _ => h0 hf N L Z3 hN⟩
    · rw [z]
      have hz : ∀ k : Nat, k < t + 1 → aset Z3 t (x3 % 10) k = x / p100 k % 10 := fun k hk => by
        by_cases e : k = t
        · subst e; rw [aset_s, e3]
        · rw [aset_n (by omega)]; exact ez k (by omega)
      have stp : ∀ s0 : Int, ((s0 = 0 ∧ shq B m P x = false) ∨ (s0 = 1 ∧ (shq B m P x = false ∨ ∃ M, Inv B M ∧ shq B j M (x3 / 100) = shq B m P x ∧ ∀ g, 0 ≤ g → g < 10 → (0 ≤ M.1 g ↔ (0 ≤ P.1 g ∨ sb (ior x4 (ishl 1 (x3 % 10))) g = true))))) → wp_X7_putsBy_99 (fun (x1 : Int) (x2 : Int) (x3 : Int) (x4 : Int) (x5 : Int) (x6 : Int) (N_h : gMN) (L_h : gML) (Z_h : gMZ) => wp_X7_putsBy_11 B P (fun (x1 : Int) (x2 : Int) (x5 : Int) (N_h : gMN) (L_h : gML) (Z_h : gMZ) => wp_X7_putsBy_126 B P Q x1 x2 x5 N_h L_h Z_h) Q n x1 x2 x3 x4 x5 x6 N_h L_h Z_h) Q x m x3 x4 t s0 N L (aset Z3 t (x3 % 10)) := fun s0 hs => by
        unfold wp_X7_putsBy_99
        rw [aset_s, Int.tdiv_eq_ediv_of_nonneg y0]
        exact ⟨⟨by omega, by omega⟩, ⟨by omega, by omega⟩, ih (x3 / 100, _, s0, _) ⟨t + 1, j, by omega, by omega, by rw [e3]; exact div_p100, S10_or s4 (S10_shl hg), hz, hs⟩⟩
      have sqe : ∀ M, shq B (j + 1) M x3 = (decide ((mput B M (x3 % 10) (x3 / 10 % 10)).1 = 0) && shq B j (mput B M (x3 % 10) (x3 / 10 % 10)).2 (x3 / 100)) := fun M => rfl
      have bad : (∀ M, Inv B M → (∀ g, 0 ≤ g → g < 10 → (0 ≤ M.1 g ↔ (0 ≤ P.1 g ∨ sb x4 g = true))) → (mput B M (x3 % 10) (x3 / 10 % 10)).1 ≠ 0) → shq B m P x = false := fun q => by
        rcases hf with hf | ⟨M, hM, hq, hl⟩
        · exact hf
        · rw [← hq, sqe, decide_eq_false (q M hM hl)]; rfl
      refine ⟨⟨by omega, by omega⟩, ⟨by omega, by omega⟩, fun q => by omega, fun _ => ⟨by decide, fun q => absurd q (by decide), fun _ => ⟨⟨by omega, by omega⟩, ⟨by omega, by omega⟩, s_X7_has hB.2.1 hg (fun f => ⟨fun q => absurd q (by decide), fun _ => ⟨hg, ⟨by omega, by omega⟩, fun a => stp 0 (Or.inl ⟨rfl, bad (fun M hM hl w => ?_)⟩), fun a => s_X7_has s4 hg (fun b => ⟨fun _ => stp 0 (Or.inl ⟨rfl, bad (fun M hM hl w => ?_)⟩), fun q => absurd (by decide) q⟩) (fun b => ⟨fun q => absurd rfl q, fun _ => ⟨⟨by omega, by omega⟩, ⟨by omega, by omega⟩, ⟨by omega, by omega⟩, fun c => stp 0 (Or.inl ⟨rfl, bad (fun M hM hl w => ?_)⟩), fun c => stp 1 (Or.inr ⟨rfl, ?_⟩)⟩⟩)⟩⟩) (fun f => ⟨fun _ => stp 0 (Or.inl ⟨rfl, bad (fun M hM hl w => ?_)⟩), fun q => absurd rfl q⟩)⟩⟩⟩
      · have := (mput_0 w).2.1
        have := (hl _ hg.1 hg.2).mpr (Or.inl a)
        omega
      · have := (mput_0 w).2.1
        have := (hl _ hg.1 hg.2).mpr (Or.inr b)
        omega
      · have := shq_col hB hg.1 hg.2 w
        omega
      · rcases hf with hf | ⟨M, hM, hq, hl⟩
        · exact Or.inl hf
        · by_cases w : (mput B M (x3 % 10) (x3 / 10 % 10)).1 = 0
          · right
            have hI6 := inv_put (c := x3 / 10 % 10) hM hg.1 hg.2 (by omega)
            obtain ⟨m1, m2, m3, m4⟩ := mput_0 w
            have p0 := (put_fits hB hM.2.1 hM.2.2.1 hM.2.2.2.1 hg.1 hg.2 m2 m1 (by omega) m3).1
            refine ⟨_, hI6, by rw [← hq, sqe, decide_eq_true w, Bool.true_and], fun g g0 g1 => ?_⟩
            rw [m4, sb_or s4 (S10_shl hg), sb_shl hg g0]
            by_cases e : x3 % 10 = g
            · rw [← e, mset_s1, decide_eq_true rfl, Bool.or_true]
              exact ⟨fun _ => Or.inr rfl, fun _ => p0⟩
            · rw [mset_n1 (fun q => e q.symm), decide_eq_false e, Bool.or_false]; exact hl g g0 g1
          · left
            rw [← hq, sqe, decide_eq_false w]; rfl
      · have := (mput_0 w).1
        rw [f] at this; exact absurd this (by decide)
theorem s_X7_putsBy {B : gMB} {P : gMP} {N : gMN} {L : gML} {Z : gMZ} {x : Int} {m : Nat} {Q : Int → gMN → gML → gMZ → Prop} (hI : Inv B P) (hN : Scr N L) (hm : m ≤ 3) (x0 : 0 ≤ x) (x1 : x < p100 m) (h1 : shq B m P x = true → ∀ L' Z', Inv B (shf B m P x) → Z10 L' → Q 1 (shf B m P x) L' Z') (h0 : shq B m P x = false → ∀ N' L' Z', Scr N' L' → Q 0 N' L' Z') : wp_X7_putsBy B P N L Z x m Q := s_X7_putsByZ hI hN hm x0 x1 (fun q L' Z' i z _ => h1 q L' Z' i z) h0
