/-! high: the calls -/
def HV (B : gMB) (N : gMN) (H p : Int) : Prop := (∃ q M, Rch B q N M ∧ hst B M = H ∧ p = (q : Int)) ∧ ∀ q M, Rch B q N M → hst B M < H ∨ (hst B M = H ∧ p ≤ (q : Int))
theorem HV_one {B : gMB} {N : gMN} {H p H' p' : Int} (h : HV B N H p) (h' : HV B N H' p') : H = H' ∧ p = p' := by
  obtain ⟨⟨q, M, a1, a2, a3⟩, a4⟩ := h
  obtain ⟨⟨q', M', b1, b2, b3⟩, b4⟩ := h'
  have := a4 q' M' b1
  have := b4 q M a1
  omega
def VHi (B : gMB) (N : gMN) (w v : Int) : Prop := (¬ (0 ≤ w ∧ w ≤ 1) ∧ v = -2) ∨ ((0 ≤ w ∧ w ≤ 1) ∧ 3 < popc (frs B N) ∧ v = -4) ∨ ((0 ≤ w ∧ w ≤ 1) ∧ popc (frs B N) ≤ 3 ∧ ∃ H p, HV B N H p ∧ v = if w = 0 then H else p)
theorem VHi_one {B : gMB} {N : gMN} {w v v' : Int} (h : VHi B N w v) (h' : VHi B N w v') : v = v' := by
  rcases h with ⟨a, b⟩ | ⟨a, b, c⟩ | ⟨a, b, H, p, c, d⟩
  · rcases h' with ⟨a', b'⟩ | ⟨a', b', c'⟩ | ⟨a', b', _⟩
    · omega
    · exact absurd a' a
    · exact absurd a' a
  · rcases h' with ⟨a', b'⟩ | ⟨a', b', c'⟩ | ⟨a', b', _⟩
    · exact absurd a a'
    · omega
    · omega
  · rcases h' with ⟨a', b'⟩ | ⟨a', b', c'⟩ | ⟨a', b', H', p', c', d'⟩
    · exact absurd a a'
    · omega
    · obtain ⟨e1, e2⟩ := HV_one c c'
      rw [d, d', e1, e2]
theorem s_high {B : gMB} {N : gMN} {S Sr : gWS} {T Tr : gWT} {Ur : gWU} {w : Int} {Q : Int → gWS → gWT → gWU → Prop} (hI : Inv B N) (hS : SR B S) (hT : TR B N T) (rw_ : rI w) (h : ∀ v, VHi B N w v → ∀ S' T' U', Q v S' T' U') : wp_X6_high S T Sr Tr Ur w Q := by
  have hB := hI.1
  unfold wp_X6_high
  refine s_isOutside rw_ (by decide) (by decide) (fun a b => ⟨fun _ => ?_, fun q => absurd rfl q⟩) (fun a => ⟨fun q => absurd q (by decide), fun _ => h _ (Or.inl ⟨a, rfl⟩) _ _ _⟩)
  unfold wp_X5_freeGuests
  rw [hS.2.1, lbs_T hT]
  refine s_bitCount (frs_S hB) ?_
  have hp := popc_r (frs B N)
  rw [show popc (iand B.2.1 (ixor (lbs N) (-1))) = popc (frs B N) from rfl]
  refine ⟨⟨by omega, by omega⟩, fun z => ?_, fun z => h _ (Or.inr (Or.inl ⟨⟨a, b⟩, by omega, rfl⟩)) _ _ _⟩
  refine s_become hS hT (fun S2 T2 hS2 hT2 => ?_)
  obtain ⟨k, hk⟩ : ∃ k : Nat, popc (frs B N) = (k : Int) := ⟨(popc (frs B N)).toNat, by omega⟩
  rw [show (6 : Nat) = k + 1 + (5 - k) by omega]
  refine s_climb (F := k) hS2 (by omega) k hI hT2 hk (Int.le_refl 0) (by omega) ⟨⟨by omega, by omega⟩, Or.inl rfl⟩ (fun v T3 U3 hT3 hv => ?_)
  obtain ⟨v1, v2, v3⟩ := hv
  have h0 := v3 0 N rfl
  have hh := hst_10 hB hI.2.1
  rcases v2 with v2 | ⟨q, M, hq, v2⟩
  · omega
  · have hl := rch_le hI hq
    have hM := rch_inv hI hq
    have hm := hst_10 hM.1 hM.2.1
    have hv : HV B N (hst B M) q := ⟨⟨q, M, hq, rfl, rfl⟩, fun r M' hr => by
      have h1 := v3 r M' hr
      have h2 := rch_le hI hr
      omega⟩
    refine ⟨rw_, fun y => ⟨⟨by omega, by omega⟩, ?_⟩, fun y => ⟨⟨by omega, by omega⟩, ?_⟩⟩
    · refine h _ (Or.inr (Or.inr ⟨⟨a, b⟩, z, hst B M, q, hv, ?_⟩)) _ _ _
      rw [if_neg y, Int.tmod_eq_emod_of_nonneg (by omega)]; omega
    · refine h _ (Or.inr (Or.inr ⟨⟨a, b⟩, z, hst B M, q, hv, ?_⟩)) _ _ _
      rw [if_pos (Decidable.of_not_not y), Int.tdiv_eq_ediv_of_nonneg (by omega)]; omega
/-! the reference's numbers: two digits a put, the last digits first -/
def p100 (j : Nat) : Int := 100 ^ j
theorem p100_s (j : Nat) : p100 (j + 1) = 100 * p100 j := by unfold p100; rw [Int.pow_succ]; omega
theorem p100_pos (j : Nat) : 0 < p100 j := Int.pow_pos (by decide)
def shq (B : gMB) : Nat → gMN → Int → Bool
  | 0, _, _ => true
  | p + 1, N, x => decide ((mput B N (x % 10) (x / 10 % 10)).1 = 0) && shq B p (mput B N (x % 10) (x / 10 % 10)).2 (x / 100)
def shf (B : gMB) : Nat → gMN → Int → gMN
  | 0, N, _ => N
  | p + 1, N, x => shf B p (mput B N (x % 10) (x / 10 % 10)).2 (x / 100)
theorem shq_col {B : gMB} {N : gMN} {g c : Int} (hB : BOk B) (g0 : 0 ≤ g) (g1 : g < 10) (h : (mput B N g c).1 = 0) : c < B.1 := by
  obtain ⟨a, b, d, e⟩ := mput_0 h
  have := ((hB.2.2 g g0 g1).2.2.2 a)
  omega
theorem rch_to {B : gMB} {p : Nat} : ∀ {N M : gMN}, BOk B → Rch B p N M → ∃ x, 0 ≤ x ∧ x < p100 p ∧ shq B p N x = true ∧ shf B p N x = M := by
  induction p with
  | zero => intro N M _ h; exact ⟨0, by omega, p100_pos 0, rfl, (show M = N from h).symm⟩
  | succ p ih =>
    intro N M hB ⟨g, c, hg, hc, hm, h⟩
    have hn := hB.1
    obtain ⟨x, x0, x1, hq, hf⟩ := ih hB h
    have e1 : (g + 10 * c + 100 * x) % 10 = g := by omega
    have e2 : (g + 10 * c + 100 * x) / 10 % 10 = c := by omega
    have e3 : (g + 10 * c + 100 * x) / 100 = x := by omega
    refine ⟨g + 10 * c + 100 * x, by omega, by rw [p100_s]; omega, ?_, ?_⟩
    · show (decide _ && _) = true
      rw [e1, e2, e3, decide_eq_true hm]; exact hq
    · show shf B p _ _ = M
      rw [e1, e2, e3]; exact hf
theorem rch_of {B : gMB} {p : Nat} : ∀ {N : gMN} {x : Int}, BOk B → 0 ≤ x → shq B p N x = true → Rch B p N (shf B p N x) := by
  induction p with
  | zero => intro N x _ _ _; rfl
  | succ p ih =>
    intro N x hB x0 h
    have h : (decide ((mput B N (x % 10) (x / 10 % 10)).1 = 0) && shq B p (mput B N (x % 10) (x / 10 % 10)).2 (x / 100)) = true := h
    rw [Bool.and_eq_true, decide_eq_true_eq] at h
    exact ⟨x % 10, x / 10 % 10, ⟨by omega, by omega⟩, ⟨by omega, shq_col hB (by omega) (by omega) h.1⟩, h.1, ih hB (by omega) h.2⟩
