/-! fractions in lowest terms -/
def pv (u l p : Int) : Int := if p = 0 then u / (Int.gcd u l : Int) else l / (Int.gcd u l : Int)
theorem gcd_nat (a b : Nat) : Int.gcd (a : Int) (b : Int) = Nat.gcd a b := by simp [Int.gcd]
theorem pv_scale {u l p : Int} (hl : 0 < l) : pv (6 * u) (6 * l) p = pv u l p := by
  have hg : Int.gcd (6 * u) (6 * l) = 6 * Int.gcd u l := by rw [Int.gcd_mul_left]; rfl
  unfold pv
  rw [hg, show ((6 * Int.gcd u l : Nat) : Int) = 6 * (Int.gcd u l : Int) by rw [Int.natCast_mul]; rfl, Int.mul_ediv_mul_of_pos _ _ (by omega), Int.mul_ediv_mul_of_pos _ _ (by omega)]
theorem pv_zero {l p : Int} (hl : 0 < l) : pv 0 l p = if p = 0 then 0 else 1 := by
  unfold pv
  rw [Int.gcd_zero_left, Int.zero_ediv, Int.natAbs_of_nonneg (by omega), Int.ediv_self (by omega)]
theorem s_X7_part {u l p : Int} {Q : Int → Prop} (hu : 0 ≤ u ∧ u < 4611686018427387904) (hl : 0 < l ∧ l < 4611686018427387904) (hp : rI p) (h : Q (pv u l p)) : wp_X7_part u l p Q := by
  obtain ⟨a, rfl⟩ : ∃ a : Nat, u = (a : Int) := ⟨u.toNat, by omega⟩
  obtain ⟨b, rfl⟩ : ∃ b : Nat, l = (b : Int) := ⟨l.toNat, by omega⟩
  unfold wp_X7_part
  refine loop_m (fun m (s : Int × Int) => wp_X7_part_6 _ Q m (a : Int) (b : Int) p s.1 s.2) (fun s => ∃ c d : Nat, s.1 = (c : Int) ∧ s.2 = (d : Int) ∧ Nat.gcd c d = Nat.gcd a b ∧ c < 4611686018427387904 ∧ d < 4611686018427387904) (fun s => s.2.toNat) ?_ ((a : Int), (b : Int)) ⟨a, b, rfl, rfl, rfl, by omega, by omega⟩
  rintro m ⟨x, y⟩ ⟨c, d, rfl, rfl, hg, hc, hd⟩ ih
  show wp_X7_part_6 _ Q (m + 1) (a : Int) (b : Int) p (c : Int) (d : Int)
  unfold wp_X7_part_6
  refine ⟨⟨by omega, by omega⟩, fun z => ⟨hp, fun q => ?_, fun q => ?_⟩, fun z => ⟨z, ⟨by omega, by omega⟩, ?_⟩⟩
  · have dz : d = 0 := by omega
    subst dz
    rw [Nat.gcd_zero_right] at hg
    have gp : 0 < Nat.gcd a b := Nat.gcd_pos_of_pos_right a (by omega)
    unfold pv at h
    rw [if_neg q, gcd_nat, ← hg] at h
    refine ⟨by omega, ⟨by omega, by omega⟩, ⟨by omega, by omega⟩, ?_⟩
    rw [Int.tdiv_eq_ediv_of_nonneg (by omega)]; exact h
  · have dz : d = 0 := by omega
    subst dz
    rw [Nat.gcd_zero_right] at hg
    have gp : 0 < Nat.gcd a b := Nat.gcd_pos_of_pos_right a (by omega)
    unfold pv at h
    rw [if_pos (Decidable.of_not_not q), gcd_nat, ← hg] at h
    refine ⟨by omega, ⟨by omega, by omega⟩, ⟨by omega, by omega⟩, ?_⟩
    rw [Int.tdiv_eq_ediv_of_nonneg (by omega)]; exact h
  · rw [Int.tmod_eq_emod_of_nonneg (by omega)]
    have hd0 : 0 < d := by omega
    have hm : c % d < d := Nat.mod_lt c hd0
    refine ih ((d : Int), (c : Int) % (d : Int)) ⟨d, c % d, rfl, by simp, ?_, hd, by omega⟩ ?_
    · rw [Nat.gcd_comm, ← Nat.gcd_rec, Nat.gcd_comm]; exact hg
    · show ((c : Int) % (d : Int)).toNat < ((d : Int)).toNat
      rw [← Int.natCast_emod]; omega
theorem gd_ends {Q : Int → Prop} (g : Nat) : ∀ (k c d : Nat) (i : Int), d < 2 ^ k → 0 ≤ i → i + 2 * k ≤ 127 → c < 4611686018427387904 → d < 4611686018427387904 → Nat.gcd c d = g → Q (g : Int) → ∃ m, wp_X6_greatestDivisor_9 (fun x4 => Q x4) Q m (c : Int) (d : Int) i := by
  intro k
  have fin : ∀ (c : Nat) (i : Int), 0 ≤ i → i ≤ 127 → Nat.gcd c 0 = g → Q (g : Int) → wp_X6_greatestDivisor_9 (fun x4 => Q x4) Q 1 (c : Int) ((0 : Nat) : Int) i := fun c i i0 i1 hg h => by
    rw [Nat.gcd_zero_right] at hg
    unfold wp_X6_greatestDivisor_9
    exact ⟨⟨by omega, by omega⟩, fun q => by omega, fun _ => ⟨by decide, fun _ => by rw [hg]; exact h, fun q => absurd rfl q⟩⟩
  induction k with
  | zero =>
    intro c d i hd i0 i1 hc hd2 hg h
    have dz : d = 0 := by omega
    subst dz
    exact ⟨1, fin c i i0 (by omega) hg h⟩
  | succ k ih =>
    intro c d i hd i0 i1 hc hd2 hg h
    by_cases dz : d = 0
    · subst dz
      exact ⟨1, fin c i i0 (by omega) hg h⟩
    · have hm : c % d < d := Nat.mod_lt c (by omega)
      have hg2 : Nat.gcd d (c % d) = g := by rw [Nat.gcd_comm, ← Nat.gcd_rec, Nat.gcd_comm]; exact hg
      have step : ∀ m, wp_X6_greatestDivisor_9 (fun x4 => Q x4) Q m (d : Int) ((c % d : Nat) : Int) (i + 1) → wp_X6_greatestDivisor_9 (fun x4 => Q x4) Q (m + 1) (c : Int) (d : Int) i := fun m w => by
        unfold wp_X6_greatestDivisor_9
        refine ⟨⟨by omega, by omega⟩, fun q => by omega, fun _ => ⟨⟨by omega, by omega⟩, fun q => by omega, fun z => ⟨z, ⟨by omega, by omega⟩, ?_⟩⟩⟩
        rw [Int.tmod_eq_emod_of_nonneg (by omega), ← Int.natCast_emod]; exact w
      by_cases rz : c % d = 0
      · rw [rz] at hg2
        refine ⟨2, step 1 ?_⟩
        rw [rz]; exact fin d (i + 1) (by omega) (by omega) hg2 h
      · have hm2 : d % (c % d) < c % d := Nat.mod_lt d (by omega)
        have hle : d % (c % d) ≤ d - c % d := by
          have := Nat.mod_add_div d (c % d)
          have h1 : 1 ≤ d / (c % d) := Nat.div_pos (by omega) (by omega)
          have h2 : (c % d) * 1 ≤ (c % d) * (d / (c % d)) := Nat.mul_le_mul_left _ h1
          omega
        rw [Nat.pow_succ] at hd
        obtain ⟨m, w⟩ := ih (c % d) (d % (c % d)) (i + 2) (by omega) (by omega) (by omega) (by omega) (by omega) (by rw [Nat.gcd_comm, ← Nat.gcd_rec, Nat.gcd_comm]; exact hg2) h
        refine ⟨m + 2, step (m + 1) ?_⟩
        unfold wp_X6_greatestDivisor_9
        refine ⟨⟨by omega, by omega⟩, fun q => by omega, fun _ => ⟨⟨by omega, by omega⟩, fun q => by omega, fun z => ⟨z, ⟨by omega, by omega⟩, ?_⟩⟩⟩
        rw [Int.tmod_eq_emod_of_nonneg (by omega), ← Int.natCast_emod, show i + 1 + 1 = i + 2 by omega]; exact w
theorem s_lowest {u l p : Int} {Q : Int → Prop} (hu : 0 ≤ u ∧ u < 4611686018427387904) (hl : 0 < l ∧ l < 4611686018427387904) (hp : rI p) (h : Q (pv u l p)) : wp_X6_inLowestTerms u l p Q := by
  obtain ⟨a, rfl⟩ : ∃ a : Nat, u = (a : Int) := ⟨u.toNat, by omega⟩
  obtain ⟨b, rfl⟩ : ∃ b : Nat, l = (b : Int) := ⟨l.toNat, by omega⟩
  have gp : 0 < Nat.gcd a b := Nat.gcd_pos_of_pos_right a (by omega)
  have gl : Nat.gcd a b ≤ b := Nat.le_of_dvd (by omega) (Nat.gcd_dvd_right a b)
  unfold wp_X6_inLowestTerms wp_X6_greatestDivisor
  refine gd_ends (Q := fun r2 => rL r2 ∧ ((¬ r2 = 0 → rI p ∧ ((¬ p = 0 → ¬ r2 = 0 ∧ rL (b : Int) ∧ Q ((b : Int).tdiv r2)) ∧ (¬ (¬ p = 0) → ¬ r2 = 0 ∧ rL (a : Int) ∧ Q ((a : Int).tdiv r2)))) ∧ (¬ (¬ r2 = 0) → Q 0))) (Nat.gcd a b) 62 a b 0 (by omega) (by omega) (by omega) (by omega) (by omega) rfl ?_
  unfold pv at h
  rw [gcd_nat] at h
  refine ⟨⟨by omega, by omega⟩, fun z => ⟨hp, fun q => ⟨z, ⟨by omega, by omega⟩, ?_⟩, fun q => ⟨z, ⟨by omega, by omega⟩, ?_⟩⟩, fun z => by omega⟩
  · rw [if_neg q] at h
    rw [Int.tdiv_eq_ediv_of_nonneg (by omega)]; exact h
  · rw [if_pos (Decidable.of_not_not q)] at h
    rw [Int.tdiv_eq_ediv_of_nonneg (by omega)]; exact h
/-! load -/
def vLoad (B : gMB) (N : gMN) (g p : Int) : Int := if ¬ (0 ≤ g ∧ g ≤ 9) then -1000000000000000001 else if ¬ (0 ≤ p ∧ p ≤ 1) then -1000000000000000002 else if N.1 g < 0 then -1000000000000000003 else pv (ldA B N g) 60466176 p
theorem s_load {B : gMB} {N : gMN} {S : gWS} {T : gWT} {U : gWU} {g p : Int} {Q : Int → gWU → Prop} (hI : Inv B N) (hS : SR B S) (hT : TR B N T) (r1 : rI g) (r2 : rI p) (h : ∀ U', Q (vLoad B N g p) U') : wp_X6_load S T U g p Q := by
  obtain ⟨hB, hN, hD, hSp, hO⟩ := id hI
  unfold wp_X6_load vLoad at *
  refine s_isNoGuest r1 (fun a b => ⟨fun _ => ?_, fun q => absurd rfl q⟩) (fun a => ⟨fun q => absurd q (by decide), fun _ => ?_⟩)
  · rw [if_neg (fun q => q ⟨a, b⟩)] at h
    refine s_isOutside r2 (by decide) (by decide) (fun c d => ⟨fun _ => ?_, fun q => absurd rfl q⟩) (fun c => ⟨fun q => absurd q (by decide), fun _ => ?_⟩)
    · rw [if_neg (fun q => q ⟨c, d⟩)] at h
      refine s_isLaid hT a (by omega) (fun z => ⟨fun _ => s_weigh hB hN hS hT (fun U' hU' => s_atL ⟨a, by omega⟩ (by omega) ?_), fun q => absurd (by decide) q⟩) (fun z => ⟨fun q => absurd rfl q, fun _ => ?_⟩)
      · rw [if_neg (by omega)] at h
        have e := hU' g a (by omega)
        have hr := ldA_r (N := N) hB a (show g < 10 by omega)
        have hh := h U'
        rw [← e, show (60466176 : Int) = 6 * 10077696 by omega, pv_scale (by omega)] at hh
        exact s_lowest ⟨by omega, by omega⟩ ⟨by omega, by omega⟩ r2 hh
      · rw [if_pos z] at h; exact h _
    · rw [if_pos c] at h; exact h _
  · rw [if_pos a] at h; exact h _
theorem s_X7_load {B : gMB} {P : gMP} {N : gMN} {L : gML} {g p : Int} {Q : Int → gMN → gML → Prop} (hI : Inv B P) (hN : Scr N L) (r1 : rI g) (r2 : rI p) (h : ∀ N' L', Scr N' L' → Q (vLoad B P g p) N' L') : wp_X7_load B P N L g p Q := by
  obtain ⟨hB, hP, hD, hSp, hO⟩ := id hI
  unfold wp_X7_load vLoad at *
  refine s_X7_in r1 (by decide) (by decide) (fun a b => ⟨fun _ => ?_, fun q => absurd (by decide) q⟩) (fun a => ⟨fun q => absurd rfl q, fun _ => ?_⟩)
  · rw [if_neg (fun q => q ⟨a, b⟩)] at h
    have hr := hP.nr hB g a (by omega)
    refine s_X7_in r2 (by decide) (by decide) (fun c d => ⟨fun _ => ⟨⟨a, by omega⟩, ⟨by omega, by omega⟩, fun z => ?_, fun z => ?_⟩, fun q => absurd (by decide) q⟩) (fun c => ⟨fun q => absurd rfl q, fun _ => ?_⟩)
    · rw [if_neg (fun q => q ⟨c, d⟩), if_neg (by omega)] at h
      refine s_X7_asNow hP.1 hN.1 (s_X7_layLoads hB (hP.nr hB) hN.2 ?_)
      have hl := ldA_r (N := P) hB a (show g < 10 by omega)
      exact s_X7_part ⟨by omega, by omega⟩ ⟨by omega, by omega⟩ r2 (h _ _ ⟨hP.1, ldA_z hB⟩)
    · rw [if_neg (fun q => q ⟨c, d⟩), if_pos (by omega)] at h; exact h _ _ hN
    · rw [if_pos c] at h; exact h _ _ hN
  · rw [if_pos a] at h; exact h _ _ hN
/-! strain -/
def stF (B : gMB) (N : gMN) : Int → (Int × Int) → (Int × Int) := fun g V => if 0 ≤ N.1 g ∧ 0 < B.2.2.2.2 g ∧ V.1 * B.2.2.2.2 g < ldA B N g * V.2 then (ldA B N g, B.2.2.2.2 g) else V
def stv (B : gMB) (N : gMN) : Int × Int := itI (stF B N) 0 10 (0, 1)
def VR (V : Int × Int) : Prop := 0 ≤ V.1 ∧ V.1 ≤ 12093235200 ∧ 1 ≤ V.2 ∧ V.2 ≤ 200
theorem ld_inv {B : gMB} {N : gMN} {g : Int} (hI : Inv B N) (g0 : 0 ≤ g) (g1 : g < 10) (hg : 0 ≤ N.1 g) : 0 ≤ ldA B N g ∧ ldA B N g ≤ 12093235200 := by
  have h1 := hI.2.2.2.2 g g0 g1 hg
  have h2 := (hI.1.2.2 g g0 g1).2.2.1
  have h3 := (ldA_r (N := N) hI.1 g0 g1).1
  omega
theorem st_r {B : gMB} {N : gMN} (hI : Inv B N) (i : Int) (h0 : 0 ≤ i) (h1 : i ≤ 10) : VR (itI (stF B N) 0 i (0, 1)) := by
  refine itI_ind (P := fun _ V => VR V) h0 ⟨by simp, by simp, by simp, by simp⟩ (fun k V k0 k1 hV => ?_)
  unfold stF
  split
  · rename_i a
    have := ld_inv hI k0 (by omega) a.1
    have := (hI.1.2.2 k k0 (by omega)).2.2.1
    exact ⟨by dsimp only; omega, by dsimp only; omega, by dsimp only; omega, by dsimp only; omega⟩
  · exact hV
theorem stv_r {B : gMB} {N : gMN} (hI : Inv B N) : VR (stv B N) := st_r hI 10 (by omega) (by omega)
theorem mul_r {a b A C : Int} (h0 : 0 ≤ a) (h1 : a ≤ A) (h2 : 0 ≤ b) (h3 : b ≤ C) : 0 ≤ a * b ∧ a * b ≤ A * C :=
  ⟨Int.mul_nonneg h0 h2, Int.mul_le_mul h1 h3 h2 (by omega)⟩
theorem s_X7_layStrain {B : gMB} {N : gMN} {L : gML} {V : gMV} {Q : gML → gMV → Prop} (hI : Inv B N) (hL : Z10 L) (h : Q (ldA B N) (stv B N)) : wp_X7_layStrain B N L V Q := by
  obtain ⟨hB, hN, hD, hSp, hO⟩ := id hI
  unfold wp_X7_layStrain
  refine s_X7_layLoads hB (hN.nr hB) hL ?_
  refine lp_inv (fun m i (V : gMV) => wp_X7_layStrain_16 B N _ Q m i (ldA B N) V) 10 (fun i V => 0 ≤ i ∧ V = itI (stF B N) 0 i (0, 1)) ?_ ?_ 0 (0, 1) (by omega) ⟨by omega, (itI_0 (by omega)).symm⟩
  · rintro m V ⟨hi, rfl⟩
    show wp_X7_layStrain_16 _ _ _ _ (m + 1) _ _ _
    unfold wp_X7_layStrain_16
    exact ⟨by decide, fun _ => h, fun q => absurd (Int.le_refl 10) q⟩
  · rintro m i V hlt ⟨hi, rfl⟩ ih
    obtain ⟨v1, v2, v3, v4⟩ := st_r hI i hi (by omega)
    have hb := (hB.2.2 i hi hlt).2.2.1
    show wp_X7_layStrain_16 _ _ _ _ (m + 1) _ _ _
    unfold wp_X7_layStrain_16
    refine ⟨⟨by omega, by omega⟩, fun q => by omega, fun _ => s_X7_isIn (hN.nr hB) ⟨hi, hlt⟩ (fun a => ⟨fun q => absurd q (by decide), fun _ => ⟨⟨hi, hlt⟩, ⟨by omega, by omega⟩, fun b => ?_, fun b => ?_⟩⟩) (fun a => ⟨fun _ => ?_, fun q => absurd rfl q⟩)⟩
    · exact ih _ ⟨by omega, by rw [itI_s hi]; exact (if_neg (fun q => by omega)).symm⟩
    · have hl := ld_inv hI hi hlt a
      have m1 := mul_r hl.1 hl.2 (show 0 ≤ (itI (stF B N) 0 i (0, 1)).2 by omega) v4
      have m2 := mul_r v1 v2 hb.1 hb.2
      refine ⟨⟨by omega, by omega⟩, ⟨by omega, by omega⟩, fun d => ?_, fun d => ?_⟩
      · exact ih _ ⟨by omega, by rw [itI_s hi]; exact (if_neg (fun q => by have := q.2.2; omega)).symm⟩
      · exact ih _ ⟨by omega, by rw [itI_s hi]; exact (if_pos ⟨a, by omega, by omega⟩).symm⟩
    · exact ih _ ⟨by omega, by rw [itI_s hi]; exact (if_neg (fun q => by omega)).symm⟩
/-- the class's most strained stone k, the reference's fraction V -/
def MS (B : gMB) (N : gMN) (k : Int) (V : Int × Int) : Prop := (k = -6 ∧ V = (0, 1)) ∨ ((0 ≤ k ∧ k < 10 ∧ 0 ≤ N.1 k ∧ 0 < B.2.2.2.2 k) ∧ (V = (ldA B N k, B.2.2.2.2 k) ∨ (V = (0, 1) ∧ ldA B N k = 0)))
theorem s_strainUpper {B : gMB} {N : gMN} {U : gWU} {k : Int} {V : Int × Int} {Q : Int → Prop} (hU : UR U (ldA B N)) (hk : MS B N k V) (h : ∀ u, (k = -6 → u = 0) → (k ≠ -6 → 6 * u = ldA B N k) → Q u) : wp_X5_strainUpper U k Q := by
  unfold wp_X5_strainUpper
  rcases hk with ⟨rfl, _⟩ | ⟨⟨k0, k1, _, _⟩, _⟩
  · exact ⟨by decide, fun q => absurd rfl q, fun _ => h 0 (fun _ => rfl) (fun q => absurd rfl q)⟩
  · exact ⟨⟨by omega, by omega⟩, fun _ => s_atL ⟨k0, k1⟩ (by omega) (h _ (fun q => by omega) (fun _ => hU k k0 k1)), fun q => by omega⟩
theorem s_strainLower {B : gMB} {N : gMN} {S : gWS} {k : Int} {V : Int × Int} {Q : Int → Prop} (hB : BOk B) (hS : SR B S) (hk : MS B N k V) (h : ∀ u, (k = -6 → u = 1) → (k ≠ -6 → u = B.2.2.2.2 k) → Q u) : wp_X5_strainLower S k Q := by
  unfold wp_X5_strainLower
  rcases hk with ⟨rfl, _⟩ | ⟨⟨k0, k1, _, _⟩, _⟩
  · exact ⟨by decide, fun q => absurd rfl q, fun _ => h 1 (fun _ => rfl) (fun q => absurd rfl q)⟩
  · have hb := (hB.2.2 k k0 k1).2.2.1
    refine ⟨⟨by omega, by omega⟩, fun _ => s_at ⟨k0, k1⟩ (by omega) ?_, fun q => by omega⟩
    rw [(hS.2.2 k k0 k1).2.2]
    exact ⟨⟨by omega, by omega⟩, h _ (fun q => by omega) (fun _ => rfl)⟩
theorem s_mostStrained {B : gMB} {N : gMN} {S : gWS} {T : gWT} {U : gWU} {Q : Int → Prop} (hI : Inv B N) (hS : SR B S) (hT : TR B N T) (hU : UR U (ldA B N)) (h : ∀ k, MS B N k (stv B N) → Q k) : wp_X5_mostStrained S T U Q := by
  obtain ⟨hB, hN, hD, hSp, hO⟩ := id hI
  unfold wp_X5_mostStrained
  refine lp_inv (fun m i (k : Int) => wp_X5_mostStrained_5 S T U (fun x1 => Q x1) Q m k i) 10 (fun i k => 0 ≤ i ∧ MS B N k (itI (stF B N) 0 i (0, 1))) ?_ ?_ 0 (-6) (by omega) ⟨by omega, Or.inl ⟨rfl, itI_0 (by omega)⟩⟩
  · rintro m k ⟨hi, e⟩
    show wp_X5_mostStrained_5 _ _ _ _ _ (m + 1) _ _
    unfold wp_X5_mostStrained_5
    exact ⟨by decide, fun _ => h k e, fun q => absurd (Int.le_refl 10) q⟩
  · rintro m i k hlt ⟨hi, e⟩ ih
    obtain ⟨v1, v2, v3, v4⟩ := st_r hI i hi (by omega)
    have hb := (hB.2.2 i hi hlt).2.2.1
    have keep : ∀ V, V = itI (stF B N) 0 i (0, 1) → ¬ (0 ≤ N.1 i ∧ 0 < B.2.2.2.2 i ∧ V.1 * B.2.2.2.2 i < ldA B N i * V.2) → itI (stF B N) 0 (i + 1) (0, 1) = V := fun V hV q => by
      rw [itI_s hi, ← hV]; exact if_neg q
    have take : ∀ V, V = itI (stF B N) 0 i (0, 1) → (0 ≤ N.1 i ∧ 0 < B.2.2.2.2 i ∧ V.1 * B.2.2.2.2 i < ldA B N i * V.2) → itI (stF B N) 0 (i + 1) (0, 1) = (ldA B N i, B.2.2.2.2 i) := fun V hV q => by
      rw [itI_s hi, ← hV]; exact if_pos q
    show wp_X5_mostStrained_5 _ _ _ _ _ (m + 1) _ _
    unfold wp_X5_mostStrained_5
    have kr : rI k := by rcases e with ⟨rfl, _⟩ | ⟨⟨a, b, _⟩, _⟩ <;> exact ⟨by omega, by omega⟩
    refine ⟨⟨by omega, by omega⟩, fun q => by omega, fun _ => s_isLaid hT hi hlt (fun a => ⟨fun q => absurd q (by decide), fun _ => s_at ⟨hi, hlt⟩ (by omega) ?_⟩) (fun a => ⟨fun _ => ih k ⟨by omega, ?_⟩, fun q => absurd rfl q⟩)⟩
    · rw [(hS.2.2 i hi hlt).2.2]
      have hl := ld_inv hI hi hlt a
      refine ⟨⟨by omega, by omega⟩, fun b => ih k ⟨by omega, ?_⟩, fun b => ⟨kr, fun z => ih i ⟨by omega, ?_⟩, fun z => ?_⟩⟩
      · rw [keep _ rfl (fun q => by omega)]; exact e
      · rcases e with ⟨_, e⟩ | ⟨⟨k0, _⟩, _⟩
        · by_cases lz : ldA B N i = 0
          · rw [keep _ rfl (fun q => by rw [e] at q; have := q.2.2; dsimp only at this; omega), e]
            exact Or.inr ⟨⟨hi, hlt, a, by omega⟩, Or.inr ⟨rfl, lz⟩⟩
          · rw [take _ rfl (by rw [e]; exact ⟨a, by omega, by dsimp only; omega⟩)]
            exact Or.inr ⟨⟨hi, hlt, a, by omega⟩, Or.inl rfl⟩
        · omega
      · have ei : MS B N i (ldA B N i, B.2.2.2.2 i) := Or.inr ⟨⟨hi, hlt, a, by omega⟩, Or.inl rfl⟩
        refine s_strainUpper hU ei (fun u1 _ e1 => s_strainLower hB hS e (fun l0 _ f0 => s_strainUpper hU e (fun u0 _ e0 => s_strainLower hB hS ei (fun l1 _ f1 => ?_))))
        replace e1 := e1 (by omega)
        replace f0 := f0 z
        replace e0 := e0 z
        replace f1 := f1 (by omega)
        rcases e with ⟨q, _⟩ | ⟨⟨k0, k1, k2, k3⟩, e⟩
        · exact absurd q z
        · have hl0 := ld_inv hI k0 k1 k2
          have hb0 := (hB.2.2 k k0 k1).2.2.1
          have m1 := mul_r (show 0 ≤ u1 by omega) (show u1 ≤ 12093235200 by omega) (show 0 ≤ l0 by omega) (show l0 ≤ 200 by omega)
          have m2 := mul_r (show 0 ≤ u0 by omega) (show u0 ≤ 12093235200 by omega) (show 0 ≤ l1 by omega) (show l1 ≤ 200 by omega)
          have p1 : ldA B N i * B.2.2.2.2 k = 6 * (u1 * l0) := by rw [← e1, ← f0, Int.mul_assoc]
          have p0 : ldA B N k * B.2.2.2.2 i = 6 * (u0 * l1) := by rw [← e0, ← f1, Int.mul_assoc]
          refine ⟨⟨by omega, by omega⟩, ⟨by omega, by omega⟩, fun y => ih k ⟨by omega, ?_⟩, fun y => ih i ⟨by omega, ?_⟩⟩
          · rcases e with e | ⟨e, lz⟩
            · rw [keep _ rfl (fun q => by rw [e] at q; have := q.2.2; dsimp only at this; omega)]
              exact Or.inr ⟨⟨k0, k1, k2, k3⟩, Or.inl e⟩
            · rw [lz, Int.zero_mul] at p0
              have y0 : ldA B N i * B.2.2.2.2 k ≤ 0 := by omega
              have lz2 : ldA B N i = 0 := by
                refine Decidable.byContradiction fun x => ?_
                have := Int.mul_pos (show 0 < ldA B N i by omega) k3
                omega
              rw [keep _ rfl (fun q => by rw [e] at q; have := q.2.2; dsimp only at this; omega)]
              exact Or.inr ⟨⟨k0, k1, k2, k3⟩, Or.inr ⟨e, lz⟩⟩
          · rcases e with e | ⟨e, lz⟩
            · rw [take _ rfl (by rw [e]; exact ⟨a, by omega, by dsimp only; omega⟩)]
              exact ei
            · rw [lz, Int.zero_mul] at p0
              have lz2 : ldA B N i ≠ 0 := fun x => by rw [x, Int.zero_mul] at p1; omega
              rw [take _ rfl (by rw [e]; exact ⟨a, by omega, by dsimp only; omega⟩)]
              exact ei
    · rw [keep _ rfl (fun q => by omega)]; exact e
def vStrain (B : gMB) (N : gMN) (p : Int) : Int := if ¬ (0 ≤ p ∧ p ≤ 1) then -1000000000000000002 else pv (stv B N).1 ((stv B N).2 * 60466176) p
theorem s_strain {B : gMB} {N : gMN} {S : gWS} {T : gWT} {U : gWU} {p : Int} {Q : Int → gWU → Prop} (hI : Inv B N) (hS : SR B S) (hT : TR B N T) (r2 : rI p) (h : ∀ U', Q (vStrain B N p) U') : wp_X6_strain S T U p Q := by
  obtain ⟨hB, hN, hD, hSp, hO⟩ := id hI
  unfold wp_X6_strain vStrain at *
  refine s_isOutside r2 (by decide) (by decide) (fun c d => ⟨fun _ => ?_, fun q => absurd rfl q⟩) (fun c => ⟨fun q => absurd q (by decide), fun _ => ?_⟩)
  · rw [if_neg (fun q => q ⟨c, d⟩)] at h
    refine s_weigh hB hN hS hT (fun U' hU' => s_mostStrained hI hS hT hU' (fun k hk => s_strainUpper hU' hk (fun u u0 u1 => s_strainLower hB hS hk (fun l l0 l1 => ?_))))
    have hh := h U'
    rcases hk with ⟨k0, e⟩ | ⟨⟨k0, k1, k2, k3⟩, e⟩
    · rw [e] at hh
      rw [u0 k0, l0 k0]
      refine s_lowest ⟨by omega, by omega⟩ ⟨by omega, by omega⟩ r2 ?_
      rw [pv_zero (by decide)] at hh
      rw [pv_zero (by decide)]; exact hh
    · have e6 := u1 (by omega)
      have el := l1 (by omega)
      have hl := ld_inv hI k0 k1 k2
      have hb := (hB.2.2 k k0 k1).2.2.1
      refine s_lowest ⟨by omega, by omega⟩ ⟨by omega, by omega⟩ r2 ?_
      rcases e with e | ⟨e, lz⟩
      · rw [e] at hh
        dsimp only at hh
        rw [← e6, ← el, show l * 60466176 = 6 * (l * 10077696) by omega, pv_scale (by omega)] at hh
        exact hh
      · rw [e] at hh
        rw [pv_zero (by decide)] at hh
        rw [show u = 0 by omega, pv_zero (by omega)]; exact hh
  · rw [if_pos c] at h; exact h _
theorem s_X7_strain {B : gMB} {P : gMP} {N : gMN} {L : gML} {V : gMV} {p : Int} {Q : Int → gMN → gML → gMV → Prop} (hI : Inv B P) (hN : Scr N L) (r2 : rI p) (h : ∀ N' L' V', Scr N' L' → Q (vStrain B P p) N' L' V') : wp_X7_strain B P N L V p Q := by
  obtain ⟨hB, hP, hD, hSp, hO⟩ := id hI
  unfold wp_X7_strain vStrain at *
  refine s_X7_in r2 (by decide) (by decide) (fun c d => ⟨fun _ => ?_, fun q => absurd (by decide) q⟩) (fun c => ⟨fun q => absurd rfl q, fun _ => ?_⟩)
  · rw [if_neg (fun q => q ⟨c, d⟩)] at h
    refine s_X7_asNow hP.1 hN.1 (s_X7_layStrain hI hN.2 ?_)
    obtain ⟨v1, v2, v3, v4⟩ := stv_r hI
    exact s_X7_part ⟨by omega, by omega⟩ ⟨by omega, by omega⟩ r2 (h _ _ _ ⟨hP.1, ldA_z hB⟩)
  · rw [if_pos c] at h; exact h _ _ _ hN
/-! bulges -/
def blF (B : gMB) (N : gMN) : Int → Int → Int := fun g a => if 0 ≤ N.1 g ∧ 181398528 * B.2.2.2.2 g < 4 * ldA B N g then ior a (ishl 1 g) else a
def vBulges (B : gMB) (N : gMN) : Int := itI (blF B N) 0 10 0
theorem ior_0 {s : Int} (hs : S10 s) : ior s 0 = s := sb_ext (S10_or hs S10_0) hs (fun g _ _ => by rw [sb_or hs S10_0, sb_0, Bool.or_false])
theorem s_bulges {B : gMB} {N : gMN} {S : gWS} {T : gWT} {U : gWU} {Q : Int → gWU → Prop} (hI : Inv B N) (hS : SR B S) (hT : TR B N T) (h : ∀ U', Q (vBulges B N) U') : wp_X6_bulges S T U Q := by
  obtain ⟨hB, hN, hD, hSp, hO⟩ := id hI
  unfold wp_X6_bulges
  refine s_weigh hB hN hS hT (fun U' hU' => ?_)
  refine lp_inv (fun m i (a : Int) => wp_X6_bulges_11 S T _ Q m a i U') 10 (fun i a => 0 ≤ i ∧ a = itI (blF B N) 0 i 0) ?_ ?_ 0 0 (by omega) ⟨by omega, (itI_0 (by omega)).symm⟩
  · rintro m a ⟨hi, rfl⟩
    show wp_X6_bulges_11 _ _ _ _ (m + 1) _ _ _
    unfold wp_X6_bulges_11
    exact ⟨by decide, fun _ => h U', fun q => absurd (Int.le_refl 10) q⟩
  · rintro m i a hlt ⟨hi, rfl⟩ ih
    have hb := (hB.2.2 i hi hlt).2.2.1
    have hu := hU' i hi hlt
    show wp_X6_bulges_11 _ _ _ _ (m + 1) _ _ _
    unfold wp_X6_bulges_11
    refine ⟨⟨by omega, by omega⟩, fun q => by omega, fun _ => s_isLaid hT hi hlt (fun a => ⟨fun q => absurd q (by decide), fun _ => s_atL ⟨hi, hlt⟩ (by omega) (s_at ⟨hi, hlt⟩ (by omega) ?_)⟩) (fun a => ⟨fun _ => ih _ ⟨by omega, ?_⟩, fun q => absurd rfl q⟩)⟩
    · rw [(hS.2.2 i hi hlt).2.2]
      have hl := ld_inv hI hi hlt a
      refine ⟨⟨by omega, by omega⟩, ⟨by omega, by omega⟩, ⟨by omega, by omega⟩, fun b => ih _ ⟨by omega, ?_⟩, fun b => ih _ ⟨by omega, ?_⟩⟩
      · rw [itI_s hi]; exact (if_neg (fun q => by omega)).symm
      · rw [itI_s hi]; exact (if_pos ⟨a, by omega⟩).symm
    · rw [itI_s hi]; exact (if_neg (fun q => by omega)).symm
theorem bl_S {B : gMB} {N : gMN} (i : Int) (h0 : 0 ≤ i) (h1 : i ≤ 10) : S10 (itI (blF B N) 0 i 0) := itI_ind (P := fun _ a => S10 a) h0 S10_0 (fun k a k0 k1 h => by
  unfold blF
  split
  · exact S10_or h (S10_shl ⟨k0, by omega⟩)
  · exact h)
theorem s_X7_bulges {B : gMB} {P : gMP} {N : gMN} {L : gML} {Q : Int → gMN → gML → Prop} (hI : Inv B P) (hN : Scr N L) (h : ∀ N' L', Scr N' L' → Q (vBulges B P) N' L') : wp_X7_bulges B P N L Q := by
  obtain ⟨hB, hP, hD, hSp, hO⟩ := id hI
  unfold wp_X7_bulges
  refine s_X7_asNow hP.1 hN.1 (s_X7_layLoads hB (hP.nr hB) hN.2 ?_)
  refine lp_inv (fun m i (a : Int) => wp_X7_bulges_12 B _ Q m a i P (ldA B P)) 10 (fun i a => 0 ≤ i ∧ a = itI (blF B P) 0 i 0) ?_ ?_ 0 0 (by omega) ⟨by omega, (itI_0 (by omega)).symm⟩
  · rintro m a ⟨hi, rfl⟩
    show wp_X7_bulges_12 _ _ _ (m + 1) _ _ _ _
    unfold wp_X7_bulges_12
    exact ⟨by decide, fun _ => h _ _ ⟨hP.1, ldA_z hB⟩, fun q => absurd (Int.le_refl 10) q⟩
  · rintro m i a hlt ⟨hi, rfl⟩ ih
    have hb := (hB.2.2 i hi hlt).2.2.1
    have hs := bl_S (B := B) (N := P) i hi (by omega)
    have e0 : ¬ (0 ≤ P.1 i ∧ 181398528 * B.2.2.2.2 i < 4 * ldA B P i) → ior (itI (blF B P) 0 i 0) 0 = itI (blF B P) 0 (i + 1) 0 := fun q => by
      rw [ior_0 hs, itI_s hi]; exact (if_neg q).symm
    show wp_X7_bulges_12 _ _ _ (m + 1) _ _ _ _
    unfold wp_X7_bulges_12
    refine ⟨⟨by omega, by omega⟩, fun q => by omega, fun _ => s_X7_isIn (hP.nr hB) ⟨hi, hlt⟩ (fun a => ⟨fun q => absurd q (by decide), fun _ => ?_⟩) (fun a => ⟨fun _ => ih _ ⟨by omega, e0 (fun q => by omega)⟩, fun q => absurd rfl q⟩)⟩
    have hl := ld_inv hI hi hlt a
    refine ⟨⟨hi, hlt⟩, ⟨by omega, by omega⟩, ⟨by omega, by omega⟩, ⟨by omega, by omega⟩, fun b => ih _ ⟨by omega, e0 (fun q => by omega)⟩, fun b => ih _ ⟨by omega, ?_⟩⟩
    rw [itI_s hi]; exact (if_pos ⟨a, by omega⟩).symm
