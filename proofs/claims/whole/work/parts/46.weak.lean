/-! weak: the sum over all sets of weak ones is a product -/
theorem sm_mul {f : Int → Int} {c lo hi : Int} : sm (fun k => f k * c) lo hi = sm f lo hi * c := by
  rcases Int.le_total lo hi with h | h
  · exact itI_rel (fun _ a b => a = b * c) h (by omega) (fun i a b _ _ e => by rw [e, Int.add_mul])
  · rw [sm_0 h, sm_0 h]; omega
theorem sm_add {f g : Int → Int} {lo hi : Int} : sm (fun k => f k + g k) lo hi = sm f lo hi + sm g lo hi := by
  rcases Int.le_total lo hi with h | h
  · have := itI_rel (f := fun k a => a + (f k + g k)) (g := fun k (s : Int × Int) => (s.1 + f k, s.2 + g k)) (s := 0) (t := (0, 0)) (fun i (a : Int) (b : Int × Int) => a = b.1 + b.2 ∧ b.1 = sm f lo i ∧ b.2 = sm g lo i) h ⟨by simp, by dsimp only; rw [sm_0 (Int.le_refl _)], by dsimp only; rw [sm_0 (Int.le_refl _)]⟩ (fun i a b h1 _ e => by
      dsimp only
      rw [sm_s h1, sm_s h1]
      obtain ⟨e1, e2, e3⟩ := e
      exact ⟨by omega, by rw [e2], by rw [e3]⟩)
    obtain ⟨e1, e2, e3⟩ := this
    rw [← e2, ← e3]; exact e1
  · rw [sm_0 h, sm_0 h, sm_0 h]; rfl
theorem sm_shift {f : Int → Int} {c w : Int} (hw : 0 ≤ w) : sm f c (c + w) = sm (fun i => f (c + i)) 0 w := hc_shift (f := fun k a => a + f k) hw
def p2 (k : Int) : Int := 2 ^ k.toNat
theorem p2_s {k : Int} (h : 0 ≤ k) : p2 (k + 1) = p2 k + p2 k := by
  unfold p2
  rw [show (k + 1).toNat = k.toNat + 1 by omega, Int.pow_succ]; omega
theorem p2_pos (k : Int) : 0 < p2 k := by
  unfold p2
  exact Int.pow_pos (by decide)
theorem sb_low {s k : Int} (h0 : 0 ≤ s) (h1 : s < p2 k) : sb s k = false := by
  unfold sb
  apply Nat.testBit_lt_two_pow
  unfold p2 at h1
  have : ((2 ^ k.toNat : Nat) : Int) = 2 ^ k.toNat := by norm_cast
  omega
theorem p2_n (k : Int) : p2 k = ((2 ^ k.toNat : Nat) : Int) := by unfold p2; norm_cast
theorem sb_p2 {s k i : Int} (h0 : 0 ≤ s) (hi : 0 ≤ i) (hk : i < k) : sb (p2 k + s) i = sb s i := by
  unfold sb
  have e : (p2 k + s).toNat = 2 ^ k.toNat + s.toNat := by
    rw [p2_n]; generalize 2 ^ k.toNat = m; omega
  rw [e]
  exact Nat.testBit_two_pow_add_gt (by omega) _
theorem sb_p2s {s k : Int} (h0 : 0 ≤ s) (h1 : s < p2 k) : sb (p2 k + s) k = true := by
  have h := sb_low h0 h1
  unfold sb at *
  have e : (p2 k + s).toNat = 2 ^ k.toNat + s.toNat := by
    rw [p2_n]; generalize 2 ^ k.toNat = m; omega
  rw [e, Nat.testBit_two_pow_add_eq, h]; rfl
def wk0 (N : gMN) (t i : Int) : Int := if 0 ≤ N.1 i then 10 - t else 1
def wk1 (N : gMN) (t i : Int) : Int := if 0 ≤ N.1 i then t else 0
def wkD (B : gMB) (N : gMN) (i : Int) : Int := if 0 ≤ N.1 i ∧ 60466176 * (B.2.2.2.2 i).tdiv 2 < ldA B N i then 1 else 0
def wkWF (N : gMN) (t s : Int) : Int → Int → Int := fun i a => a * (if sb s i = true then wk1 N t i else wk0 N t i)
def wkNF (B : gMB) (N : gMN) (s : Int) : Int → Int → Int := fun i a => if sb s i = true then a + wkD B N i else a
def wkW (N : gMN) (t k s : Int) : Int := itI (wkWF N t s) 0 k 1
def wkN (B : gMB) (N : gMN) (k s : Int) : Int := itI (wkNF B N s) 0 k 0
theorem wkN_r {B : gMB} {N : gMN} {s : Int} (i : Int) (h0 : 0 ≤ i) : 0 ≤ wkN B N i s ∧ wkN B N i s ≤ i := itI_ind (P := fun (k : Int) (a : Int) => 0 ≤ a ∧ a ≤ k) h0 ⟨by omega, by omega⟩ (fun k a _ _ h => by
  unfold wkNF wkD
  split
  · split <;> omega
  · omega)
theorem wkW_lo {N : gMN} {t k s : Int} (hk : 0 ≤ k) (h0 : 0 ≤ s) (h1 : s < p2 k) : wkW N t (k + 1) s = wkW N t k s * wk0 N t k := by
  unfold wkW
  rw [itI_s hk]
  show _ * (if sb s k = true then _ else _) = _
  rw [if_neg (by rw [sb_low h0 h1]; decide)]
theorem wkW_hi {N : gMN} {t k s : Int} (hk : 0 ≤ k) (h0 : 0 ≤ s) (h1 : s < p2 k) : wkW N t (k + 1) (p2 k + s) = wkW N t k s * wk1 N t k := by
  unfold wkW
  rw [itI_s hk, itI_congr (g := wkWF N t s) (fun i a i0 i1 => by unfold wkWF; rw [sb_p2 h0 i0 i1])]
  show _ * (if sb (p2 k + s) k = true then _ else _) = _
  rw [if_pos (sb_p2s h0 h1)]
theorem wkN_lo {B : gMB} {N : gMN} {k s : Int} (hk : 0 ≤ k) (h0 : 0 ≤ s) (h1 : s < p2 k) : wkN B N (k + 1) s = wkN B N k s := by
  unfold wkN
  rw [itI_s hk]
  exact if_neg (by rw [sb_low h0 h1]; decide)
theorem wkN_hi {B : gMB} {N : gMN} {k s : Int} (hk : 0 ≤ k) (h0 : 0 ≤ s) (h1 : s < p2 k) : wkN B N (k + 1) (p2 k + s) = wkN B N k s + wkD B N k := by
  unfold wkN
  rw [itI_s hk, itI_congr (g := wkNF B N s) (fun i a i0 i1 => by unfold wkNF; rw [sb_p2 h0 i0 i1])]
  exact if_pos (sb_p2s h0 h1)
/-- the three sums -/
def wkA (N : gMN) (t k : Int) : Int := sm (fun s => wkW N t k s) 0 (p2 k)
def wkZ (B : gMB) (N : gMN) (t k : Int) : Int := sm (fun s => if wkN B N k s = 0 then wkW N t k s else 0) 0 (p2 k)
def wkM (B : gMB) (N : gMN) (t k : Int) : Int := sm (fun s => wkW N t k s * wkN B N k s) 0 (p2 k)
theorem wkA_s {N : gMN} {t k : Int} (hk : 0 ≤ k) : wkA N t (k + 1) = wkA N t k * wk0 N t k + wkA N t k * wk1 N t k := by
  have hp := p2_pos k
  unfold wkA
  rw [p2_s hk, sm_split (mid := p2 k) (by omega) (by omega), sm_shift (by omega), ← sm_mul, ← sm_mul]
  congr 1
  · exact sm_congr (fun s h0 h1 => wkW_lo hk h0 h1)
  · exact sm_congr (fun s h0 h1 => wkW_hi hk h0 h1)
theorem wkZ_s {B : gMB} {N : gMN} {t k : Int} (hk : 0 ≤ k) : wkZ B N t (k + 1) = wkZ B N t k * wk0 N t k + wkZ B N t k * (if wkD B N k = 0 then wk1 N t k else 0) := by
  have hp := p2_pos k
  unfold wkZ
  rw [p2_s hk, sm_split (mid := p2 k) (by omega) (by omega), sm_shift (by omega), ← sm_mul, ← sm_mul]
  congr 1
  · refine sm_congr (fun s h0 h1 => ?_)
    rw [wkW_lo hk h0 h1, wkN_lo hk h0 h1]
    split
    · rfl
    · rw [Int.zero_mul]
  · refine sm_congr (fun s h0 h1 => ?_)
    rw [wkW_hi hk h0 h1, wkN_hi hk h0 h1]
    have hn := wkN_r (B := B) (N := N) (s := s) k hk
    have hd : 0 ≤ wkD B N k := by unfold wkD; split <;> omega
    by_cases a : wkN B N k s = 0
    · by_cases b : wkD B N k = 0
      · rw [if_pos (by omega), if_pos a, if_pos b]
      · rw [if_neg (by omega), if_neg b, Int.mul_zero]
    · rw [if_neg (by omega), if_neg a, Int.zero_mul]
theorem wkM_s {B : gMB} {N : gMN} {t k : Int} (hk : 0 ≤ k) : wkM B N t (k + 1) = wkM B N t k * wk0 N t k + (wkM B N t k * wk1 N t k + wkA N t k * (wk1 N t k * wkD B N k)) := by
  have hp := p2_pos k
  unfold wkM wkA
  rw [p2_s hk, sm_split (mid := p2 k) (by omega) (by omega), sm_shift (by omega), ← sm_mul, ← sm_mul, ← sm_mul]
  refine congr (congrArg _ (sm_congr (fun s h0 h1 => ?_))) ((sm_congr (fun s h0 h1 => ?_)).trans sm_add)
  · rw [wkW_lo hk h0 h1, wkN_lo hk h0 h1, Int.mul_assoc, Int.mul_assoc, Int.mul_comm (wk0 N t k)]
  · rw [wkW_hi hk h0 h1, wkN_hi hk h0 h1, Int.mul_add, Int.mul_assoc, Int.mul_assoc, Int.mul_assoc, Int.mul_comm (wk1 N t k) (wkN B N k s)]
/-- the class's product -/
def wkS (B : gMB) (N : gMN) (t : Int) : Int → (Int × Int × Int) → (Int × Int × Int) := fun i s => if 0 ≤ N.1 i ∧ 60466176 * (B.2.2.2.2 i).tdiv 2 < ldA B N i then (s.1 * (10 - t), s.2.1 * 10, s.2.2 + 1) else s
def wkP (N : gMN) : Int → Int → Int := fun i a => if 0 ≤ N.1 i then a * 10 else a
theorem wk_all {B : gMB} {N : gMN} {t : Int} (k : Int) (h0 : 0 ≤ k) : wkA N t k = itI (wkP N) 0 k 1 ∧ (itI (wkS B N t) 0 k (1, 1, 0)).2.1 * wkZ B N t k = (itI (wkS B N t) 0 k (1, 1, 0)).1 * itI (wkP N) 0 k 1 ∧ 10 * wkM B N t k = (itI (wkS B N t) 0 k (1, 1, 0)).2.2 * t * itI (wkP N) 0 k 1 := by
  obtain ⟨n, rfl⟩ : ∃ n : Nat, k = (n : Int) := ⟨k.toNat, by omega⟩
  clear h0
  induction n with
  | zero =>
    have e : p2 ((0 : Nat) : Int) = 0 + 1 := rfl
    unfold wkA wkZ wkM wkW wkN
    rw [e, sm_1, sm_1, sm_1, itI_0 (by omega), itI_0 (by omega), itI_0 (by omega), itI_0 (by omega)]
    simp
  | succ n ih =>
    obtain ⟨e1, e2, e3⟩ := ih
    have hk : (0 : Int) ≤ (n : Int) := by omega
    rw [show ((n + 1 : Nat) : Int) = (n : Int) + 1 by omega, wkA_s hk, wkZ_s hk, wkM_s hk, itI_s hk, itI_s hk]
    generalize itI (wkP N) 0 (n : Int) 1 = p at *
    generalize itI (wkS B N t) 0 (n : Int) (1, 1, 0) = s at *
    generalize wkA N t (n : Int) = a at *
    generalize wkZ B N t (n : Int) = z at *
    generalize wkM B N t (n : Int) = m at *
    generalize (n : Int) = k at *
    subst e1
    by_cases q : 0 ≤ N.1 k
    · have h0 : wk0 N t k = 10 - t := if_pos q
      have h1 : wk1 N t k = t := if_pos q
      have hp : wkP N k a = a * 10 := if_pos q
      by_cases r : 60466176 * (B.2.2.2.2 k).tdiv 2 < ldA B N k
      · have hd : wkD B N k = 1 := if_pos ⟨q, r⟩
        have hs : wkS B N t k s = (s.1 * (10 - t), s.2.1 * 10, s.2.2 + 1) := if_pos ⟨q, r⟩
        rw [h0, h1, hp, hd, hs, if_neg (by omega)]
        dsimp only
        refine ⟨?_, ?_, ?_⟩
        · rw [← Int.mul_add]; congr 1; omega
        · rw [Int.mul_zero, Int.add_zero]
          have : s.2.1 * 10 * (z * (10 - t)) = (s.2.1 * z) * (10 * (10 - t)) := by ac_rfl
          rw [this, e2]; ac_rfl
        · rw [← Int.add_assoc, ← Int.mul_add, show 10 - t + t = 10 by omega, Int.mul_add, Int.mul_one, show 10 * (m * 10) = 10 * m * 10 by omega, e3, Int.add_mul, Int.add_mul, Int.one_mul]
          congr 1
          · ac_rfl
          · ac_rfl
      · have hd : wkD B N k = 0 := if_neg (fun w => r w.2)
        have hs : wkS B N t k s = s := if_neg (fun w => r w.2)
        rw [h0, h1, hp, hd, hs, if_pos rfl]
        refine ⟨?_, ?_, ?_⟩
        · rw [← Int.mul_add]; congr 1; omega
        · rw [← Int.mul_add, show 10 - t + t = 10 by omega, ← Int.mul_assoc, e2]; ac_rfl
        · rw [← Int.add_assoc, ← Int.mul_add, show 10 - t + t = 10 by omega, Int.mul_zero, Int.mul_zero, Int.add_zero, ← Int.mul_assoc, e3]; ac_rfl
    · have h0 : wk0 N t k = 1 := if_neg q
      have h1 : wk1 N t k = 0 := if_neg q
      have hp : wkP N k a = a := if_neg q
      have hd : wkD B N k = 0 := if_neg (fun w => q w.1)
      have hs : wkS B N t k s = s := if_neg (fun w => q w.1)
      rw [h0, h1, hp, hd, hs, if_pos rfl]
      refine ⟨?_, ?_, ?_⟩
      · rw [Int.mul_one, Int.mul_zero, Int.add_zero]
      · rw [Int.mul_one, Int.mul_zero, Int.add_zero]; exact e2
      · rw [Int.mul_one, Int.mul_zero, Int.mul_zero, Int.mul_zero, Int.add_zero, Int.add_zero]; exact e3
