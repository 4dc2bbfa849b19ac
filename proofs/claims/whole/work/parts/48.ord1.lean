/-! orders: sequences as numbers, their first digit first -/
def p10 (j : Nat) : Int := 10 ^ j
theorem p10_s (j : Nat) : p10 (j + 1) = 10 * p10 j := by unfold p10; rw [Int.pow_succ]; omega
theorem p10_pos (j : Nat) : 0 < p10 j := Int.pow_pos (by decide)
/-- folds in blocks -/
theorem itI_shift {σ : Type} {f : Int → σ → σ} {w c : Int} {s : σ} (hw : 0 ≤ w) : itI f c (c + w) s = itI (fun i a => f (c + i) a) 0 w s := by
  have := itI_ind (f := fun i a => f (c + i) a) (s := s) (P := fun i a => a = itI f c (c + i) s) (lo := 0) (hi := w) hw (itI_0 (by omega)).symm (fun i a h1 h2 e => by
    rw [e, show c + (i + 1) = (c + i) + 1 by omega, itI_s (by omega)])
  exact this.symm
theorem itI_block {σ : Type} {f : Int → σ → σ} {W : Int} {s : σ} (hW : 0 ≤ W) (n : Int) (hn : 0 ≤ n) : itI f 0 (n * W) s = itI (fun g s => itI (fun i a => f (g * W + i) a) 0 W s) 0 n s := by
  refine (itI_ind (f := fun g s => itI (fun i a => f (g * W + i) a) 0 W s) (s := s) (P := fun k t => t = itI f 0 (k * W) s) hn (by rw [Int.zero_mul, itI_0 (by omega)]) (fun k t k0 k1 e => ?_)).symm
  have hm := Int.mul_nonneg k0 hW
  show itI (fun i a => f (k * W + i) a) 0 W t = _
  rw [show (k + 1) * W = k * W + W by rw [Int.add_mul]; omega, itI_split (f := f) (mid := k * W) (hi := k * W + W) hm (by omega), itI_shift hW, ← e]
def sdel (s g : Int) : Int := iand s (ixor (ishl 1 g) (-1))
theorem S10_sdel {s g : Int} (hs : S10 s) (hg : 0 ≤ g ∧ g < 10) : S10 (sdel s g) := S10_andn hs (S10_shl hg)
theorem sb_sdel {s g h : Int} (hs : S10 s) (hg : 0 ≤ g ∧ g < 10) (h0 : 0 ≤ h) : sb (sdel s g) h = (sb s h && !decide (g = h)) := by
  unfold sdel; rw [sb_andn hs (S10_shl hg), sb_shl hg h0]
theorem popc_sm (s : Int) : popc s = sm (fun k => bI (sb s k)) 0 10 := rfl
theorem popc_sdel {s g : Int} (hs : S10 s) (hg : 0 ≤ g ∧ g < 10) : popc (sdel s g) = popc s - bI (sb s g) := by
  rw [popc_sm, popc_sm]
  have := sm_upd (f := fun k => bI (sb s k)) (f' := fun k => bI (sb (sdel s g) k)) (lo := 0) (hi := 10) hg.1 hg.2 (fun k k0 _ e => by
    rw [sb_sdel hs hg k0, decide_eq_false (fun q => e q.symm)]; simp)
  rw [this, sb_sdel hs hg hg.1, decide_eq_true rfl]
  simp only [Bool.not_true, Bool.and_false]
  unfold bI
  simp only [Bool.false_eq_true, if_false]
  omega
theorem bI_r (b : Bool) : 0 ≤ bI b ∧ bI b ≤ 1 := by unfold bI; split <;> omega
def vd (B : gMB) (col : Int → Int) : Nat → gMN → Int → Int → Bool
  | 0, _, _, _ => true
  | j + 1, N, left, c => sb left (c / p10 j) && decide ((mput B N (c / p10 j) (col (c / p10 j))).1 = 0) && vd B col j (mput B N (c / p10 j) (col (c / p10 j))).2 (sdel left (c / p10 j)) (c % p10 j)
def sq (B : gMB) (col : Int → Int) : Nat → gMN → Int → Bool
  | 0, _, _ => true
  | j + 1, N, c => decide ((mput B N (c / p10 j) (col (c / p10 j))).1 = 0) && sq B col j (mput B N (c / p10 j) (col (c / p10 j))).2 (c % p10 j)
def bts : Nat → Int → Int → Int
  | 0, a, _ => a
  | j + 1, a, c => bts j (ior a (ishl 1 (c / p10 j))) (c % p10 j)
def pth : Nat → Int → (Int → Int) → Int → (Int → Int)
  | 0, _, f, _ => f
  | j + 1, i, f, c => pth j (i + 1) (aset f i (c / p10 j)) (c % p10 j)
theorem dgt {j : Nat} {c : Int} (h0 : 0 ≤ c) (h1 : c < p10 (j + 1)) : (0 ≤ c / p10 j ∧ c / p10 j < 10) ∧ (0 ≤ c % p10 j ∧ c % p10 j < p10 j) := by
  have hp := p10_pos j
  rw [p10_s] at h1
  exact ⟨⟨Int.ediv_nonneg h0 (by omega), Int.ediv_lt_of_lt_mul hp h1⟩, Int.emod_nonneg _ (by omega), Int.emod_lt_of_pos _ hp⟩
theorem bts_S {j : Nat} : ∀ {a c : Int}, S10 a → 0 ≤ c → c < p10 j → S10 (bts j a c) := by
  induction j with
  | zero => intro a c ha _ _; exact ha
  | succ j ih => intro a c ha h0 h1
                 obtain ⟨d1, d2⟩ := dgt h0 h1
                 exact ih (S10_or ha (S10_shl d1)) d2.1 d2.2
theorem bts_le {j : Nat} : ∀ {a c s : Int}, S10 a → S10 s → 0 ≤ c → c < p10 j → (∀ g, 0 ≤ g → g < 10 → sb s g = true → sb a g = false ∧ sb (bts j a c) g = true) → popc s ≤ j := by
  induction j with
  | zero =>
    intro a c s ha hs _ _ h
    have e : s = 0 := sb_ext hs S10_0 fun g g0 g1 => by
      rw [sb_0]
      cases hb : sb s g
      · rfl
      · obtain ⟨x, y⟩ := h g g0 g1 hb
        rw [show bts 0 a c = a from rfl, x] at y; exact absurd y (by decide)
    rw [e]
    decide
  | succ j ih =>
    intro a c s ha hs h0 h1 h
    obtain ⟨d1, d2⟩ := dgt h0 h1
    have := ih (a := ior a (ishl 1 (c / p10 j))) (c := c % p10 j) (s := sdel s (c / p10 j)) (S10_or ha (S10_shl d1)) (S10_sdel hs d1) d2.1 d2.2 (fun g g0 g1 hg => by
      rw [sb_sdel hs d1 g0, Bool.and_eq_true, Bool.not_eq_true', decide_eq_false_iff_not] at hg
      obtain ⟨x, y⟩ := h g g0 g1 hg.1
      rw [sb_or ha (S10_shl d1), sb_shl d1 g0, x, decide_eq_false hg.2]
      exact ⟨rfl, y⟩)
    rw [popc_sdel hs d1] at this
    have hb := bI_r (sb s (c / p10 j))
    omega
/-- told ones each once, one after another: the same as digit by digit out of those left -/
theorem vd_is {B : gMB} {col : Int → Int} {j : Nat} : ∀ {N : gMN} {a s c : Int}, S10 a → S10 s → popc s = j → (∀ g, 0 ≤ g → g < 10 → sb s g = true → sb a g = false) → 0 ≤ c → c < p10 j → (vd B col j N s c = true ↔ ((∀ g, 0 ≤ g → g < 10 → sb (bts j a c) g = (sb a g || sb s g)) ∧ sq B col j N c = true)) := by
  induction j with
  | zero =>
    intro N a s c ha hs hp _ _ _
    have e : ∀ g, 0 ≤ g → g < 10 → sb s g = false := fun g g0 g1 => by
      have h1 := popc_sdel hs ⟨g0, g1⟩
      have h2 := popc_r (sdel s g)
      cases hb : sb s g
      · rfl
      · rw [hb] at h1; unfold bI at h1; rw [if_pos rfl] at h1; omega
    exact ⟨fun _ => ⟨fun g g0 g1 => by rw [e g g0 g1, Bool.or_false]; rfl, rfl⟩, fun _ => rfl⟩
  | succ j ih =>
    intro N a s c ha hs hp hd h0 h1
    obtain ⟨d1, d2⟩ := dgt h0 h1
    have ha2 := S10_or ha (S10_shl d1)
    have hs2 := S10_sdel hs d1
    have key : sb s (c / p10 j) = true → (vd B col j (mput B N (c / p10 j) (col (c / p10 j))).2 (sdel s (c / p10 j)) (c % p10 j) = true ↔ ((∀ g, 0 ≤ g → g < 10 → sb (bts j (ior a (ishl 1 (c / p10 j))) (c % p10 j)) g = (sb a g || sb s g)) ∧ sq B col j (mput B N (c / p10 j) (col (c / p10 j))).2 (c % p10 j) = true)) := fun hg => by
      have hp2 := popc_sdel hs d1
      rw [hg] at hp2
      rw [ih ha2 hs2 (by rw [hp2, hp]; show _ - 1 = _; omega) (fun g g0 g1 hg2 => by
        rw [sb_sdel hs d1 g0, Bool.and_eq_true, Bool.not_eq_true', decide_eq_false_iff_not] at hg2
        rw [sb_or ha (S10_shl d1), sb_shl d1 g0, hd g g0 g1 hg2.1, decide_eq_false hg2.2]; rfl) d2.1 d2.2]
      have e : ∀ g, 0 ≤ g → (sb (ior a (ishl 1 (c / p10 j))) g || sb (sdel s (c / p10 j)) g) = (sb a g || sb s g) := fun g g0 => by
        rw [sb_or ha (S10_shl d1), sb_shl d1 g0, sb_sdel hs d1 g0]
        by_cases q : c / p10 j = g
        · rw [decide_eq_true q, ← q, hg]; simp
        · rw [decide_eq_false q]; simp
      exact ⟨fun h => ⟨fun g g0 g1 => (h.1 g g0 g1).trans (e g g0), h.2⟩, fun h => ⟨fun g g0 g1 => (h.1 g g0 g1).trans (e g g0).symm, h.2⟩⟩
    unfold vd sq bts
    rw [Bool.and_eq_true, Bool.and_eq_true, Bool.and_eq_true, decide_eq_true_eq]
    constructor
    · rintro ⟨⟨x, y⟩, z⟩
      have := (key x).mp z
      exact ⟨this.1, y, this.2⟩
    · rintro ⟨x, y, z⟩
      have hg : sb s (c / p10 j) = true := by
        refine Classical.byContradiction fun q => ?_
        have q := Bool.eq_false_iff.mpr q
        have := bts_le (j := j) (a := ior a (ishl 1 (c / p10 j))) (c := c % p10 j) (s := s) ha2 hs d2.1 d2.2 (fun g g0 g1 hg => by
          have hne : ¬ c / p10 j = g := fun e => by rw [e, hg] at q; exact absurd q (by decide)
          refine ⟨?_, ?_⟩
          · rw [sb_or ha (S10_shl d1), sb_shl d1 g0, hd g g0 g1 hg, decide_eq_false hne]; rfl
          · rw [x g g0 g1, hg, Bool.or_true])
        omega
      exact ⟨⟨hg, y⟩, (key hg).mpr ⟨x, z⟩⟩
/-- the count, and the first found -/
abbrev OA : Type := Int × (Int → Int)
def oadd (f : Int → Int) (a : OA) : OA := (a.1 + 1, if a.1 = 0 then f else a.2)
def orF (B : gMB) (col : Int → Int) (j : Nat) (N : gMN) (s i : Int) (f : Int → Int) : Int → OA → OA := fun c a => if vd B col j N s c = true then oadd (pth j i f c) a else a
def orA (B : gMB) (col : Int → Int) (j : Nat) (N : gMN) (s i : Int) (f : Int → Int) (a : OA) : OA := itI (orF B col j N s i f) 0 (p10 j) a
theorem orA_0 {B : gMB} {col : Int → Int} {N : gMN} {s i : Int} {f : Int → Int} {a : OA} : orA B col 0 N s i f a = oadd f a := by
  unfold orA
  rw [show p10 0 = 0 + 1 from rfl, itI_s (by omega), itI_0 (by omega)]
  rfl
def orG (B : gMB) (col : Int → Int) (j : Nat) (N : gMN) (s i : Int) (f : Int → Int) : Int → OA → OA := fun g a => if sb s g = true ∧ (mput B N g (col g)).1 = 0 then orA B col j (mput B N g (col g)).2 (sdel s g) (i + 1) (aset f i g) a else a
theorem orA_s {B : gMB} {col : Int → Int} {j : Nat} {N : gMN} {s i : Int} {f : Int → Int} {a : OA} : orA B col (j + 1) N s i f a = itI (orG B col j N s i f) 0 10 a := by
  have hp := p10_pos j
  unfold orA
  rw [p10_s, itI_block (by omega) 10 (by omega)]
  refine itI_congr (fun g b g0 g1 => ?_)
  have e : ∀ c, 0 ≤ c → c < p10 j → (g * p10 j + c) / p10 j = g ∧ (g * p10 j + c) % p10 j = c := fun c c0 c1 => by
    rw [Int.add_comm, Int.add_mul_ediv_right _ _ (by omega), Int.ediv_eq_zero_of_lt c0 c1, Int.add_mul_emod_self_right, Int.emod_eq_of_lt c0 c1]
    exact ⟨by omega, rfl⟩
  unfold orG
  by_cases q : sb s g = true ∧ (mput B N g (col g)).1 = 0
  · rw [if_pos q]
    unfold orA
    refine itI_congr (fun c b c0 c1 => ?_)
    obtain ⟨e1, e2⟩ := e c c0 c1
    unfold orF
    rw [show vd B col (j + 1) N s (g * p10 j + c) = vd B col j (mput B N g (col g)).2 (sdel s g) c by
      show (_ && _ && _) = _
      rw [e1, e2, q.1, decide_eq_true q.2]; rfl]
    rw [show pth (j + 1) i f (g * p10 j + c) = pth j (i + 1) (aset f i g) c by
      show pth j (i + 1) (aset f i _) _ = _
      rw [e1, e2]]
  · rw [if_neg q]
    refine itI_id (fun c c0 c1 => ?_)
    obtain ⟨e1, e2⟩ := e c c0 c1
    unfold orF
    refine if_neg (fun h => q ?_)
    have h : (sb s ((g * p10 j + c) / p10 j) && decide ((mput B N ((g * p10 j + c) / p10 j) (col ((g * p10 j + c) / p10 j))).1 = 0) && vd B col j (mput B N ((g * p10 j + c) / p10 j) (col ((g * p10 j + c) / p10 j))).2 (sdel s ((g * p10 j + c) / p10 j)) ((g * p10 j + c) % p10 j)) = true := h
    rw [e1, e2, Bool.and_eq_true, Bool.and_eq_true, decide_eq_true_eq] at h
    exact h.1
