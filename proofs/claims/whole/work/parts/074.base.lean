/-! PURE BASE: loops of the printed conditions, folds over Int, sets of guests as bits. -/
theorem lp_inv {σ : Type} (W : Nat → Int → σ → Prop) (hi : Int) (I : Int → σ → Prop)
    (hx : ∀ m s, I hi s → W (m + 1) hi s)
    (hs : ∀ m i s, i < hi → I i s → (∀ s', I (i + 1) s' → W m (i + 1) s') → W (m + 1) i s) :
    ∀ (lo : Int) (s : σ), lo ≤ hi → I lo s → ∃ m, W m lo s := by
  intro lo s hl h
  suffices H : ∀ (k : Nat) (i : Int) (s : σ), i + k = hi → I i s → W (k + 1) i s from ⟨(hi - lo).toNat + 1, H _ lo s (by omega) h⟩
  intro k
  induction k with
  | zero => intro i s e h; have e : i = hi := by omega
            subst e; exact hx 0 s h
  | succ k ih => intro i s e h; exact hs (k + 1) i s (by omega) h (fun s' h' => ih (i + 1) s' (by omega) h')
/-- downward loops -/
theorem lp_down {σ : Type} (W : Nat → Int → σ → Prop) (lo : Int) (I : Int → σ → Prop)
    (hx : ∀ m s, I lo s → W (m + 1) lo s)
    (hs : ∀ m i s, lo < i → I i s → (∀ s', I (i - 1) s' → W m (i - 1) s') → W (m + 1) i s) :
    ∀ (hi : Int) (s : σ), lo ≤ hi → I hi s → ∃ m, W m hi s := by
  intro hi s hl h
  suffices H : ∀ (k : Nat) (i : Int) (s : σ), lo + k = i → I i s → W (k + 1) i s from ⟨(hi - lo).toNat + 1, H _ hi s (by omega) h⟩
  intro k
  induction k with
  | zero => intro i s e h; have e : i = lo := by omega
            subst e; exact hx 0 s h
  | succ k ih => intro i s e h; exact hs (k + 1) i s (by omega) h (fun s' h' => ih (i - 1) s' (by omega) h')
def itr {σ : Type} (f : Int → σ → σ) (lo : Int) (s : σ) : Nat → σ
  | 0 => s
  | k + 1 => f (lo + k) (itr f lo s k)
def itI {σ : Type} (f : Int → σ → σ) (lo hi : Int) (s : σ) : σ := itr f lo s (hi - lo).toNat
theorem itI_0 {σ : Type} {f : Int → σ → σ} {lo hi : Int} {s : σ} (h : hi ≤ lo) : itI f lo hi s = s := by
  unfold itI; rw [show (hi - lo).toNat = 0 by omega]; rfl
theorem itI_s {σ : Type} {f : Int → σ → σ} {lo i : Int} {s : σ} (h : lo ≤ i) : itI f lo (i + 1) s = f i (itI f lo i s) := by
  unfold itI; rw [show (i + 1 - lo).toNat = (i - lo).toNat + 1 by omega]
  show f (lo + ((i - lo).toNat : Int)) _ = _
  rw [show lo + ((i - lo).toNat : Int) = i by omega]
theorem itI_ind {σ : Type} {f : Int → σ → σ} {lo hi : Int} {s : σ} (P : Int → σ → Prop) (h : lo ≤ hi) (h0 : P lo s) (hs : ∀ i t, lo ≤ i → i < hi → P i t → P (i + 1) (f i t)) : P hi (itI f lo hi s) := by
  suffices H : ∀ k : Nat, lo + k ≤ hi → P (lo + k) (itI f lo (lo + k) s) by
    have := H (hi - lo).toNat (by omega)
    rwa [show lo + ((hi - lo).toNat : Int) = hi by omega] at this
  intro k
  induction k with
  | zero => intro _; rw [itI_0 (by omega)]; simpa using h0
  | succ k ih => intro hk; rw [show lo + ((k + 1 : Nat) : Int) = lo + k + 1 by omega, itI_s (by omega)]; exact hs _ _ (by omega) (by omega) (ih (by omega))
theorem itI_rel {σ τ : Type} {f : Int → σ → σ} {g : Int → τ → τ} {lo hi : Int} {s : σ} {t : τ} (P : Int → σ → τ → Prop) (h : lo ≤ hi) (h0 : P lo s t) (hs : ∀ i a b, lo ≤ i → i < hi → P i a b → P (i + 1) (f i a) (g i b)) : P hi (itI f lo hi s) (itI g lo hi t) := by
  suffices H : ∀ k : Nat, lo + k ≤ hi → P (lo + k) (itI f lo (lo + k) s) (itI g lo (lo + k) t) by
    have := H (hi - lo).toNat (by omega)
    rwa [show lo + ((hi - lo).toNat : Int) = hi by omega] at this
  intro k
  induction k with
  | zero => intro _; rw [itI_0 (by omega), itI_0 (by omega)]; simpa using h0
  | succ k ih => intro hk; rw [show lo + ((k + 1 : Nat) : Int) = lo + k + 1 by omega, itI_s (by omega), itI_s (by omega)]; exact hs _ _ _ (by omega) (by omega) (ih (by omega))
theorem itI_congr {σ : Type} {f g : Int → σ → σ} {lo hi : Int} {s : σ} (hs : ∀ i a, lo ≤ i → i < hi → f i a = g i a) : itI f lo hi s = itI g lo hi s := by
  rcases Int.le_total lo hi with h | h
  · exact itI_rel (fun _ a b => a = b) h rfl (fun i a b h1 h2 e => by rw [e]; exact hs i b h1 h2)
  · rw [itI_0 h, itI_0 h]
theorem itI_split {σ : Type} {f : Int → σ → σ} {lo mid hi : Int} {s : σ} (h1 : lo ≤ mid) (h2 : mid ≤ hi) : itI f lo hi s = itI f mid hi (itI f lo mid s) := by
  suffices H : ∀ k : Nat, itI f lo (mid + k) s = itI f mid (mid + k) (itI f lo mid s) by
    have := H (hi - mid).toNat
    rwa [show mid + ((hi - mid).toNat : Int) = hi by omega] at this
  intro k
  induction k with
  | zero => rw [show mid + ((0 : Nat) : Int) = mid by omega, itI_0 (lo := mid) (hi := mid) (by omega)]
  | succ k ih => rw [show mid + ((k + 1 : Nat) : Int) = mid + k + 1 by omega, itI_s (by omega), itI_s (by omega), ih]
theorem itI_1 {σ : Type} {f : Int → σ → σ} {lo hi : Int} {s : σ} (h : lo < hi) : itI f lo hi s = itI f (lo + 1) hi (f lo s) := by
  rw [itI_split (mid := lo + 1) (by omega) (by omega)]
  congr 1
  rw [itI_s (by omega), itI_0 (by omega)]
theorem itI_id {σ : Type} {f : Int → σ → σ} {lo hi : Int} {s : σ} (hs : ∀ i, lo ≤ i → i < hi → f i s = s) : itI f lo hi s = s := by
  rcases Int.le_total lo hi with h | h
  · exact itI_ind (P := fun _ a => a = s) h rfl (fun i a h1 h2 e => by subst e; exact hs i h1 h2)
  · rw [itI_0 h]
/-! arrays -/
theorem aset_s {f : Int → Int} {i v : Int} : aset f i v i = v := by unfold aset; rw [if_pos rfl]
theorem aset_n {f : Int → Int} {i j v : Int} (h : j ≠ i) : aset f i v j = f j := by unfold aset; rw [if_neg h]
/-! bits -/
theorem bv_nat {n : Nat} (h : n < 2147483648) : (BitVec.ofInt 32 (n : Int)).toNat = n := by
  rw [BitVec.ofInt_natCast, BitVec.toNat_ofNat, Nat.mod_eq_of_lt (by omega)]
theorem iI_bv (x : Int) : (iI x).toBitVec = BitVec.ofInt 32 x := rfl
theorem bv_toInt {b : BitVec 32} (h : b.toNat < 2147483648) : b.toInt = (b.toNat : Int) := BitVec.toInt_eq_toNat_of_lt (by omega)
theorem iand_nat {n m : Nat} (hn : n < 2147483648) (hm : m < 2147483648) : iand (n : Int) (m : Int) = ((n &&& m : Nat) : Int) := by
  show ((iI (n : Int)) &&& (iI (m : Int))).toBitVec.toInt = _
  rw [Int32.toBitVec_and, iI_bv, iI_bv]
  have e : (BitVec.ofInt 32 (n : Int) &&& BitVec.ofInt 32 (m : Int)).toNat = n &&& m := by rw [BitVec.toNat_and, bv_nat hn, bv_nat hm]
  rw [bv_toInt (by rw [e]; exact Nat.lt_of_le_of_lt Nat.and_le_left hn), e]
theorem ior_nat {n m : Nat} (hn : n < 2147483648) (hm : m < 2147483648) : ior (n : Int) (m : Int) = ((n ||| m : Nat) : Int) := by
  show ((iI (n : Int)) ||| (iI (m : Int))).toBitVec.toInt = _
  rw [Int32.toBitVec_or, iI_bv, iI_bv]
  have e : (BitVec.ofInt 32 (n : Int) ||| BitVec.ofInt 32 (m : Int)).toNat = n ||| m := by rw [BitVec.toNat_or, bv_nat hn, bv_nat hm]
  rw [bv_toInt (by rw [e]; exact Nat.or_lt_two_pow (n := 31) hn hm), e]
theorem iandn_nat {n m : Nat} (hn : n < 2147483648) (hm : m < 2147483648) : iand (n : Int) (ixor (m : Int) (-1)) = ((n ^^^ (n &&& m) : Nat) : Int) := by
  have h0 : iI (ixor (m : Int) (-1)) = iI (m : Int) ^^^ iI (-1) := iI_of _
  show ((iI (n : Int)) &&& (iI (ixor (m : Int) (-1)))).toBitVec.toInt = _
  rw [h0, Int32.toBitVec_and, Int32.toBitVec_xor, iI_bv, iI_bv, iI_bv]
  have e1 : BitVec.ofInt 32 (n : Int) &&& (BitVec.ofInt 32 (m : Int) ^^^ BitVec.ofInt 32 (-1)) = BitVec.ofInt 32 (n : Int) ^^^ (BitVec.ofInt 32 (n : Int) &&& BitVec.ofInt 32 (m : Int)) := by
    have e2 : BitVec.ofInt 32 (-1) = BitVec.allOnes 32 := by decide
    rw [e2]
    apply BitVec.eq_of_getLsbD_eq
    intro i hi
    simp only [BitVec.getLsbD_and, BitVec.getLsbD_xor, BitVec.getLsbD_allOnes, hi, decide_true]
    cases (BitVec.ofInt 32 (n : Int)).getLsbD i <;> cases (BitVec.ofInt 32 (m : Int)).getLsbD i <;> rfl
  have e : (BitVec.ofInt 32 (n : Int) ^^^ (BitVec.ofInt 32 (n : Int) &&& BitVec.ofInt 32 (m : Int))).toNat = n ^^^ (n &&& m) := by rw [BitVec.toNat_xor, BitVec.toNat_and, bv_nat hn, bv_nat hm]
  rw [e1, bv_toInt (by rw [e]; exact Nat.xor_lt_two_pow (n := 31) hn (Nat.lt_of_le_of_lt Nat.and_le_left hn)), e]
/-- sets of guests -/
def S10 (s : Int) : Prop := 0 ≤ s ∧ s < 1024
def sb (s g : Int) : Bool := s.toNat.testBit g.toNat
def bI (b : Bool) : Int := if b then 1 else 0
theorem has10_b : (List.range 1024).all (fun n => (List.range 10).all (fun k => decide (iand (ishr (n : Int) (k : Int)) 1 = bI (n.testBit k)))) = true := by decide +kernel
theorem has10 {s g : Int} (hs : S10 s) (hg : 0 ≤ g ∧ g < 10) : iand (ishr s g) 1 = bI (sb s g) := by
  have h1 := List.all_eq_true.mp has10_b s.toNat (List.mem_range.mpr (by have := hs.1; have := hs.2; omega))
  have h2 := of_decide_eq_true (List.all_eq_true.mp h1 g.toNat (List.mem_range.mpr (by omega)))
  rw [Int.toNat_of_nonneg hs.1, Int.toNat_of_nonneg hg.1] at h2
  exact h2
theorem shl10_b : (List.range 10).all (fun k => decide (ishl 1 (k : Int) = ((2 ^ k : Nat) : Int))) = true := by decide +kernel
theorem shl10 {g : Int} (hg : 0 ≤ g ∧ g < 10) : ishl 1 g = ((2 ^ g.toNat : Nat) : Int) := by
  have h2 := of_decide_eq_true (List.all_eq_true.mp shl10_b g.toNat (List.mem_range.mpr (by omega)))
  rwa [Int.toNat_of_nonneg hg.1] at h2
theorem S10_n {s : Int} (h : S10 s) : ∃ n : Nat, n < 1024 ∧ s = (n : Int) := ⟨s.toNat, by have := h.1; have := h.2; omega, (Int.toNat_of_nonneg h.1).symm⟩
theorem S10_shl {g : Int} (hg : 0 ≤ g ∧ g < 10) : S10 (ishl 1 g) := by
  rw [shl10 hg]
  have : 2 ^ g.toNat ≤ 2 ^ 9 := Nat.pow_le_pow_right (by omega) (by omega)
  generalize 2 ^ g.toNat = x at *
  exact ⟨by omega, by omega⟩
theorem sb_shl {g k : Int} (hg : 0 ≤ g ∧ g < 10) (hk : 0 ≤ k) : sb (ishl 1 g) k = decide (g = k) := by
  unfold sb
  rw [shl10 hg, Int.toNat_natCast, Nat.testBit_two_pow]
  congr 1
  apply propext
  constructor <;> intro h <;> omega
theorem S10_or {s t : Int} (hs : S10 s) (ht : S10 t) : S10 (ior s t) := by
  obtain ⟨n, hn, rfl⟩ := S10_n hs; obtain ⟨m, hm, rfl⟩ := S10_n ht
  rw [ior_nat (by omega) (by omega)]
  have := Nat.or_lt_two_pow (n := 10) hn hm
  exact ⟨by omega, by omega⟩
theorem sb_or {s t g : Int} (hs : S10 s) (ht : S10 t) : sb (ior s t) g = (sb s g || sb t g) := by
  obtain ⟨n, hn, rfl⟩ := S10_n hs; obtain ⟨m, hm, rfl⟩ := S10_n ht
  unfold sb
  rw [ior_nat (by omega) (by omega), Int.toNat_natCast, Int.toNat_natCast, Int.toNat_natCast, Nat.testBit_or]
theorem S10_and {s t : Int} (hs : S10 s) (ht : S10 t) : S10 (iand s t) := by
  obtain ⟨n, hn, rfl⟩ := S10_n hs; obtain ⟨m, hm, rfl⟩ := S10_n ht
  rw [iand_nat (by omega) (by omega)]
  have := @Nat.and_le_left n m
  exact ⟨by omega, by omega⟩
theorem sb_and {s t g : Int} (hs : S10 s) (ht : S10 t) : sb (iand s t) g = (sb s g && sb t g) := by
  obtain ⟨n, hn, rfl⟩ := S10_n hs; obtain ⟨m, hm, rfl⟩ := S10_n ht
  unfold sb
  rw [iand_nat (by omega) (by omega), Int.toNat_natCast, Int.toNat_natCast, Int.toNat_natCast, Nat.testBit_and]
theorem S10_andn {s t : Int} (hs : S10 s) (ht : S10 t) : S10 (iand s (ixor t (-1))) := by
  obtain ⟨n, hn, rfl⟩ := S10_n hs; obtain ⟨m, hm, rfl⟩ := S10_n ht
  rw [iandn_nat (by omega) (by omega)]
  have h1 := @Nat.and_le_left n m
  have := Nat.xor_lt_two_pow (n := 10) hn (show n &&& m < 2 ^ 10 by omega)
  exact ⟨by omega, by omega⟩
theorem sb_andn {s t g : Int} (hs : S10 s) (ht : S10 t) : sb (iand s (ixor t (-1))) g = (sb s g && !sb t g) := by
  obtain ⟨n, hn, rfl⟩ := S10_n hs; obtain ⟨m, hm, rfl⟩ := S10_n ht
  unfold sb
  rw [iandn_nat (by omega) (by omega), Int.toNat_natCast, Int.toNat_natCast, Int.toNat_natCast, Nat.testBit_xor, Nat.testBit_and]
  cases n.testBit g.toNat <;> cases m.testBit g.toNat <;> rfl
theorem S10_0 : S10 0 := ⟨by omega, by omega⟩
theorem sb_0 (g : Int) : sb 0 g = false := by unfold sb; exact Nat.zero_testBit _
theorem sb_ext {s t : Int} (hs : S10 s) (ht : S10 t) (h : ∀ g, 0 ≤ g → g < 10 → sb s g = sb t g) : s = t := by
  obtain ⟨n, hn, rfl⟩ := S10_n hs; obtain ⟨m, hm, rfl⟩ := S10_n ht
  congr 1
  apply Nat.eq_of_testBit_eq
  intro i
  by_cases hi : i < 10
  · have := h (i : Int) (by omega) (by omega)
    unfold sb at this
    rwa [Int.toNat_natCast, Int.toNat_natCast, Int.toNat_natCast] at this
  · have hp : 2 ^ 10 ≤ 2 ^ i := Nat.pow_le_pow_right (by omega) (by omega)
    rw [Nat.testBit_lt_two_pow (by omega), Nat.testBit_lt_two_pow (by omega)]
theorem sb_hi {s g : Int} (hs : S10 s) (h : 10 ≤ g) : sb s g = false := by
  obtain ⟨n, hn, rfl⟩ := S10_n hs
  unfold sb
  have hp : 2 ^ 10 ≤ 2 ^ g.toNat := Nat.pow_le_pow_right (by omega) (by omega)
  exact Nat.testBit_lt_two_pow (by rw [Int.toNat_natCast]; omega)
/-- how many bits -/
def popc (s : Int) : Int := itI (fun k a => a + bI (sb s k)) 0 10 0
