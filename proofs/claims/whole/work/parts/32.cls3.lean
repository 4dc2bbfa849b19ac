/-! tallest, loads -/
theorem hst_ge {B : gMB} {N : gMN} {c : Int} (h0 : 0 ≤ c) (h1 : c < B.1) : hgt B N c ≤ hst B N := by
  have : ∀ k, 0 ≤ k → k < B.1 → hgt B N k ≤ itI (hstF B N) 0 B.1 0 := itI_ind (f := hstF B N) (s := 0) (P := fun i a => ∀ k, 0 ≤ k → k < i → hgt B N k ≤ a) (lo := 0) (hi := B.1) (by omega) (fun k _ _ => by omega) (fun i a h2 h3 h4 k h5 h6 => by
    unfold hstF
    by_cases e : k = i
    · subst e; split <;> omega
    · have := h4 k h5 (by omega); split <;> omega)
  exact this c h0 h1
theorem hst_is {B : gMB} {N : gMN} (hB : BOk B) : hst B N = 0 ∨ ∃ k, 0 ≤ k ∧ k < B.1 ∧ hst B N = hgt B N k := by
  have hn := hB.1
  refine itI_ind (f := hstF B N) (s := 0) (P := fun i a => a = 0 ∨ ∃ k, 0 ≤ k ∧ k < i ∧ a = hgt B N k) (lo := 0) (hi := B.1) (by omega) (Or.inl rfl) (fun i a h2 h3 h4 => ?_)
  unfold hstF
  split
  · exact Or.inr ⟨i, h2, by omega, rfl⟩
  · rcases h4 with h4 | ⟨k, a, b, d⟩
    · exact Or.inl h4
    · exact Or.inr ⟨k, a, by omega, d⟩
theorem hgt_beyond {B : gMB} {N : gMN} {c : Int} (hN : NOk B N) (h : B.1 ≤ c) : hgt B N c = 0 := by
  rcases (hgt_is B N c).2 with z | ⟨j, j0, j1, j2, j3⟩
  · exact z
  · obtain ⟨a, b, d⟩ := j2
    rcases hN.2 j j0 j1 with q | q <;> omega
theorem s_tallest {B : gMB} {N : gMN} {T : gWT} {Q : Int → Prop} (hB : BOk B) (hN : NOk B N) (hT : TR B N T) (h : Q (hst B N)) : wp_X5_tallest T Q := by
  have hn := hB.1
  have hR := hN.nr hB
  have e9 : itI (hstF B N) 0 9 0 = hst B N := by
    rw [itI_split (mid := B.1) (by omega) (by omega)]
    refine itI_id (fun i h1 h2 => ?_)
    have h0 := (hst_rng hR B.1 (by omega)).1
    show (if itI (hstF B N) 0 B.1 0 < hgt B N i then hgt B N i else itI (hstF B N) 0 B.1 0) = _
    rw [hgt_beyond hN h1, if_neg (by omega)]
  have h : Q (itI (hstF B N) 0 9 0) := by rw [e9]; exact h
  unfold wp_X5_tallest
  refine lp_inv (fun m i (f : Int) => wp_X5_tallest_4 T (fun x1 => Q x1) Q m f i) 9 (fun i f => 0 ≤ i ∧ f = itI (hstF B N) 0 i 0) ?_ ?_ 0 0 (by omega) ⟨by omega, (itI_0 (by omega)).symm⟩
  · rintro m f ⟨hi, rfl⟩
    show wp_X5_tallest_4 _ _ _ (m + 1) _ _
    unfold wp_X5_tallest_4
    exact ⟨by decide, fun _ => h, fun q => absurd (Int.le_refl 9) q⟩
  · rintro m i f hlt ⟨hi, rfl⟩ ih
    have h1 := hst_rng hR i hi
    have h2 := hgt_r (c := i) hR
    show wp_X5_tallest_4 _ _ _ (m + 1) _ _
    unfold wp_X5_tallest_4
    refine ⟨⟨by omega, by omega⟩, fun q => by omega, fun _ => s_at ⟨by omega, by omega⟩ (by omega) ?_⟩
    rw [hT.2.2.2 i hi hlt]
    refine ⟨⟨by omega, by omega⟩, ⟨by omega, by omega⟩, ih _ ⟨by omega, ?_⟩⟩
    rw [itI_s hi]
    show _ = hstF B N i _
    unfold hstF
    split <;> omega
theorem hst_10 {B : gMB} {N : gMN} (hB : BOk B) (hN : NOk B N) : 0 ≤ hst B N ∧ hst B N ≤ 10 := by
  rcases hst_is (N := N) hB with h | ⟨k, k0, k1, h⟩
  · omega
  · rcases (hgt_is B N k).2 with z | ⟨j, j0, j1, j2, j3⟩
    · omega
    · have := j2.1
      rcases hN.2 j j0 j1 with q | q <;> omega
theorem row_hst {B : gMB} {N : gMN} {g : Int} (hB : BOk B) (hN : NOk B N) (g0 : 0 ≤ g) (g1 : g < 10) (hg : 0 ≤ N.1 g) : N.1 g < hst B N := by
  rcases hN.2 g g0 g1 with q | ⟨a, b, d, e, f⟩
  · omega
  · have hw := ((hB.2.2 g g0 g1).2.2.2 f).1
    have h1 := (hgt_is B N (N.2 g)).1 g g0 g1 ⟨hg, by omega, by omega⟩
    have h2 := hst_ge (B := B) (N := N) (c := N.2 g) (by omega) (by omega)
    omega
/-- the class's units are a sixth of the reference's -/
def UR (U L : Int → Int) : Prop := ∀ g, 0 ≤ g → g < 10 → 6 * U g = L g
/-- what six to the row and one divides -/
def Dv (N : gMN) (L : gML) : Prop := ∀ g, 0 ≤ g → g < 10 → 0 ≤ N.1 g → ∃ y, L g = 6 ^ ((N.1 g).toNat + 1) * y
theorem six_ten {r : Int} (h0 : 0 ≤ r) (h1 : r ≤ 9) (w : Int) : ∃ y, 60466176 * w = 6 ^ (r.toNat + 1) * y := by
  refine ⟨6 ^ (9 - r.toNat) * w, ?_⟩
  rw [← Int.mul_assoc, ← Int.pow_add, show r.toNat + 1 + (9 - r.toNat) = 10 by omega]
  congr 1
/-- the share of a stone in row r from 1 on: exact -/
theorem ldS_ex {B : gMB} {N : gMN} {g : Int} {U L : gML} (hB : BOk B) (hN : NOk B N) (hD : Dv N L) (hU : UR U L) (hL : 0 ≤ L g) (g0 : 0 ≤ g) (g1 : g < 10) (hg : 1 ≤ N.1 g) (hh : 0 < hld B N g) : ldS B N g L = 6 * ((B.2.2.2.1 g * 10077696 + U g).tdiv (hld B N g)) ∧ ∃ z, ldS B N g L = 6 ^ (N.1 g).toNat * z := by
  have hw := (hB.2.2 g g0 g1).2.1
  have h3 := hld_r (B := B) (N := N) (g := g) (hB.2.2 g g0 g1).1.1
  have hw3 := (hB.2.2 g g0 g1).1
  have hu := hU g g0 g1
  obtain ⟨y1, e1⟩ := hD g g0 g1 (by omega)
  have r9 : N.1 g ≤ 9 := by rcases hN.2 g g0 g1 with q | q <;> omega
  obtain ⟨y2, e2⟩ := six_ten (r := N.1 g) (by omega) r9 (B.2.2.2.1 g)
  have hr : (N.1 g).toNat = (N.1 g).toNat - 1 + 1 := by omega
  have hX : L g + 60466176 * B.2.2.2.1 g = 6 * (B.2.2.2.1 g * 10077696 + U g) := by omega
  obtain ⟨n, hn⟩ : ∃ n : Nat, (N.1 g).toNat = n + 1 := ⟨(N.1 g).toNat - 1, by omega⟩
  rw [hn] at e1 e2 ⊢
  have hp : (6 : Int) ^ (n + 1 + 1) = 6 ^ n * 36 := by rw [Int.pow_succ, Int.pow_succ, Int.mul_assoc]; rfl
  have hq : (6 : Int) ^ (n + 1) = 6 ^ n * 6 := Int.pow_succ 6 n
  rw [hp] at e1 e2
  rw [hq]
  generalize (6 : Int) ^ n = W at *
  have f1 : W * 36 * y1 = 36 * (W * y1) := by ac_rfl
  have f2 : W * 36 * y2 = 36 * (W * y2) := by ac_rfl
  have hY : ∃ z, B.2.2.2.1 g * 10077696 + U g = 1 * (6 * z) := ⟨W * y1 + W * y2, by omega⟩
  have hc : hld B N g = 1 ∨ hld B N g = 2 ∨ hld B N g = 3 := by omega
  have h0 : 0 ≤ B.2.2.2.1 g * 10077696 + U g := by omega
  have e3 : B.2.2.2.1 g * 10077696 + U g = 6 * (W * y1 + W * y2) := by omega
  have fz : ∀ k : Int, W * 6 * (k * (y1 + y2)) = 6 * (k * (W * y1 + W * y2)) := fun k => by rw [← Int.mul_add]; ac_rfl
  unfold ldS
  rw [Int.tdiv_eq_ediv_of_nonneg (by omega), Int.tdiv_eq_ediv_of_nonneg h0]
  rcases hc with e | e | e
  · rw [e]; exact ⟨by omega, 6 * (y1 + y2), by rw [fz]; omega⟩
  · rw [e]; exact ⟨by omega, 3 * (y1 + y2), by rw [fz]; omega⟩
  · rw [e]; exact ⟨by omega, 2 * (y1 + y2), by rw [fz]; omega⟩
theorem Dv_C {B : gMB} {N : gMN} {r sh : Int} {L : gML} {c : Int} (h : Dv N L) (hs : ∃ z, sh = 6 ^ r.toNat * z) (hr : 1 ≤ r) : Dv N (ldC B N r sh c L) := by
  unfold ldC
  split
  · rename_i hw
    intro g g0 g1 hg
    by_cases e : g = who B N (r - 1) c
    · rcases who_cases B N (r - 1) c with q | ⟨q0, q1, q2⟩
      · omega
      · obtain ⟨y, ey⟩ := h g g0 g1 hg
        obtain ⟨z, ez⟩ := hs
        have e3 := q2.2
        rw [← e] at e3
        refine ⟨y + z, ?_⟩
        rw [e, aset_s, ← e, ey, ez, show r.toNat = (N.1 g).toNat + 1 by omega, Int.mul_add]
    · rw [aset_n e]; exact h g g0 g1 hg
  · exact h
theorem Dv_G {B : gMB} {N : gMN} {r g : Int} {U L : gML} (hB : BOk B) (hN : NOk B N) (hU : UR U L) (hr : 1 ≤ r) (g0 : 0 ≤ g) (g1 : g < 10) (hL : 0 ≤ L g) (h : Dv N L) : Dv N (ldG B N r g L) := by
  unfold ldG
  split
  · rename_i a
    have ex := (ldS_ex hB hN h hU hL g0 g1 (by omega) a.2).2
    rw [a.1] at ex
    exact itI_ind (P := fun _ M => Dv N M) (by have := (hB.2.2 g g0 g1).1; omega) h (fun k M _ _ h3 => Dv_C h3 ex hr)
  · exact h
theorem hc_shift' {σ : Type} {f : Int → σ → σ} {w c : Int} {s : σ} (hw : 0 ≤ w) : itI f c (c + w) s = itI (fun i a => f (c + i) a) 0 w s := by
  have := itI_ind (f := fun i a => f (c + i) a) (s := s) (P := fun i a => a = itI f c (c + i) s) (lo := 0) (hi := w) hw (itI_0 (by omega)).symm (fun i a h1 h2 e => by
    rw [e, show c + (i + 1) = (c + i) + 1 by omega, itI_s (by omega)])
  exact this.symm
theorem s_addTo {i v : Int} {f : Int → Int} {Q : (Int → Int) → Prop} (hi : -1 ≤ i ∧ i < 10) (h1 : 0 ≤ i → Q (aset f i (f i + v))) (h0 : i < 0 → Q f) : wp_X6_addTo 10 f i v Q := by
  unfold wp_X6_addTo
  exact ⟨⟨by omega, by omega⟩, h0, fun a => ⟨fun b => by omega, fun _ => ⟨⟨by omega, by omega⟩, h1 (by omega)⟩⟩⟩
theorem s_passDown {B : gMB} {N : gMN} {S : gWS} {T : gWT} {U L : gML} {g r p : Int} {Q : gWU → Prop} (hB : BOk B) (hN : NOk B N) (hS : SR B S) (hT : TR B N T) (hU : UR U L) (hDv : Dv N L) (hLB : LB L p) (hp : p ≤ 10) (g0 : 0 ≤ g) (g1 : g < 10) (hg : N.1 g = r) (hr : 1 ≤ r) (h : ∀ U', UR U' (ldG B N r g L) → Q U') : wp_X5_passDown S T U g r Q := by
  have hw := (hB.2.2 g g0 g1).1
  have hwt := (hB.2.2 g g0 g1).2.1
  have hn := hB.1
  obtain ⟨b1, b2, b3⟩ : N.1 g ≤ 9 ∧ 0 ≤ N.2 g ∧ N.2 g + B.2.2.1 g ≤ B.1 := by
    rcases hN.2 g g0 g1 with q | ⟨_, b, d, e, _⟩
    · omega
    · exact ⟨b, d, e⟩
  have hh := hld_r (B := B) (N := N) (g := g) hw.1
  have eh : itI (hcF B N r) (N.2 g) (N.2 g + B.2.2.1 g) 0 = hld B N g := by
    unfold hld
    refine itI_congr (fun k a _ _ => ?_)
    unfold hldF hcF
    rw [hg]
  have hu := hU g g0 g1
  have hl := hLB.2 g g0 g1
  have h4 := p4_le (n := p.toNat) (by omega)
  have hl2 : L g ≤ 1268056554319872000 := by
    have : (4 : Int) ^ p.toNat * 1209323520 ≤ 1048576 * 1209323520 := Int.mul_le_mul_of_nonneg_right h4 (by omega)
    omega
  unfold wp_X5_passDown
  refine s_at ⟨g0, g1⟩ (by omega) (s_at ⟨g0, g1⟩ (by omega) ?_)
  rw [(hS.2.2 g g0 g1).1, (hT.2.1 g g0 g1 (by omega)).2]
  refine s_heldCells hT ⟨by omega, by omega⟩ b2 hw.1 (by omega) ?_
  rw [eh]
  refine ⟨⟨by omega, by omega⟩, fun a => s_at ⟨g0, g1⟩ (by omega) ?_, fun a => ?_⟩
  · rw [(hS.2.2 g g0 g1).2.1]
    refine ⟨⟨by omega, by omega⟩, s_atL ⟨g0, g1⟩ (by omega) ⟨by omega, ⟨by omega, by omega⟩, ⟨by omega, by omega⟩, ?_⟩⟩
    obtain ⟨ex1, ex2⟩ := ldS_ex hB hN hDv hU hl.1 g0 g1 (by omega) a
    generalize hsh : (B.2.2.2.1 g * 10077696 + U g).tdiv (hld B N g) = sh at *
    have eG : ldG B N r g L = itI (fun i M => ldC B N r (6 * sh) (N.2 g + i) M) 0 (B.2.2.1 g) L := by
      unfold ldG
      rw [if_pos ⟨hg, a⟩, ex1, hc_shift' hw.1]
    rw [eG] at h
    refine lp_inv (fun m i (U' : gML) => wp_X5_passDown_66 T (fun U => Q U) Q m r (B.2.2.1 g) (N.2 g) sh i U') (B.2.2.1 g) (fun i U' => 0 ≤ i ∧ UR U' (itI (fun i M => ldC B N r (6 * sh) (N.2 g + i) M) 0 i L)) ?_ ?_ 0 U (by omega) ⟨by omega, by rw [itI_0 (by omega)]; exact hU⟩
    · rintro m U' ⟨hi, e⟩
      show wp_X5_passDown_66 _ _ _ (m + 1) _ _ _ _ _ _
      unfold wp_X5_passDown_66
      exact ⟨⟨by omega, by omega⟩, ⟨by omega, by omega⟩, fun _ => h U' e, fun q => absurd (Int.le_refl _) q⟩
    · rintro m i U' hlt ⟨hi, e⟩ ih
      show wp_X5_passDown_66 _ _ _ (m + 1) _ _ _ _ _ _
      unfold wp_X5_passDown_66 wp_X5_cellAt
      refine ⟨⟨by omega, by omega⟩, ⟨by omega, by omega⟩, fun q => by omega, fun _ => s_at ⟨by omega, by omega⟩ (by omega) ?_⟩
      rw [hT.2.2.1 (r - 1) (N.2 g + i) (by omega) (by omega) (by omega) (by omega)]
      have hcv := @cv_r B N (r - 1) (N.2 g + i)
      have hwr := @who_rng B N (r - 1) (N.2 g + i)
      refine s_addTo ⟨by omega, by omega⟩ (fun q => ih _ ⟨by omega, ?_⟩) (fun q => ih _ ⟨by omega, ?_⟩)
      · have ew : 0 ≤ who B N (r - 1) (N.2 g + i) := by
          refine Decidable.byContradiction fun z => ?_
          have := cv_z.mpr (show who B N (r - 1) (N.2 g + i) < 0 by omega)
          omega
        have ev : cv B N (r - 1) (N.2 g + i) - 1 = who B N (r - 1) (N.2 g + i) := by unfold cv; rw [if_pos ew]; omega
        rw [ev, itI_s hi]
        generalize itI (fun i M => ldC B N r (6 * sh) (N.2 g + i) M) 0 i L = M0 at *
        show UR _ (ldC B N r (6 * sh) (N.2 g + i) M0)
        unfold ldC
        rw [if_pos ew]
        intro k k0 k1
        by_cases ek : k = who B N (r - 1) (N.2 g + i)
        · have := e k k0 k1
          rw [ek] at this ⊢
          rw [aset_s, aset_s]; omega
        · rw [aset_n ek, aset_n ek]; exact e k k0 k1
      · have ew : who B N (r - 1) (N.2 g + i) < 0 := cv_z.mp (by omega)
        rw [itI_s hi]
        generalize itI (fun i M => ldC B N r (6 * sh) (N.2 g + i) M) 0 i L = M0 at *
        show UR _ (ldC B N r (6 * sh) (N.2 g + i) M0)
        unfold ldC
        rw [if_neg (by omega)]; exact e
  · refine h U ?_
    unfold ldG
    rw [if_neg (fun q => a q.2)]; exact hU
