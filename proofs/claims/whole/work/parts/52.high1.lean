/-! high: what can be reached by putting -/
def Rch (B : gMB) : Nat → gMN → gMN → Prop
  | 0, N, M => M = N
  | p + 1, N, M => ∃ g c, (0 ≤ g ∧ g < 10) ∧ (0 ≤ c ∧ c < B.1) ∧ (mput B N g c).1 = 0 ∧ Rch B p (mput B N g c).2 M
theorem rch_inv {B : gMB} {p : Nat} : ∀ {N M : gMN}, Inv B N → Rch B p N M → Inv B M := by
  induction p with
  | zero => intro N M hI h; rw [show M = N from h]; exact hI
  | succ p ih => intro N M hI ⟨g, c, hg, hc, _, h⟩
                 exact ih (inv_put hI hg.1 hg.2 hc.1) h
theorem hst_mput {B : gMB} {N : gMN} {g c : Int} (hI : Inv B N) (g0 : 0 ≤ g) (g1 : g < 10) (hc : 0 ≤ c) (h : (mput B N g c).1 = 0) : hst B (mput B N g c).2 ≤ hst B N + 1 := by
  obtain ⟨hB, hN, hD, hSp, hO⟩ := id hI
  have hn := hB.1
  have h0 := (hst_10 hB hN).1
  obtain ⟨a, b, d, e⟩ := mput_0 h
  have hw := (hB.2.2 g g0 g1).1
  obtain ⟨p0, p1, _, _, _, _, p6⟩ := put_fits hB hN hD hSp g0 g1 b a hc d
  have pr : prow B N g c ≤ hst B N := by
    have hk : ∀ k, c ≤ k → k < c + B.2.2.1 g → hgt B N k ≤ hst B N := fun k k0 k1 => hst_ge (by omega) (by omega)
    unfold prow
    exact itI_ind (P := fun _ r => r ≤ hst B N) (by omega) h0 (fun k r k0 k1 hr => by
      have := hk k k0 k1
      unfold rowF
      split <;> omega)
  rw [e]
  rcases hst_is (B := B) (N := mset N g (prow B N g c) c) hB with z | ⟨k, k0, k1, z⟩
  · omega
  · rw [z, hgt_put g0 g1 b p0 p6]
    have := hst_ge (B := B) (N := N) k0 k1
    split <;> omega
/-- the guests whose stones are out -/
def frs (B : gMB) (N : gMN) : Int := iand B.2.1 (ixor (lbs N) (-1))
theorem frs_S {B : gMB} {N : gMN} (hB : BOk B) : S10 (frs B N) := S10_andn hB.2.1 (lb_S 10 (by omega) (by omega)).1
theorem sb_frs {B : gMB} {N : gMN} (hB : BOk B) {g : Int} (g0 : 0 ≤ g) (g1 : g < 10) : sb (frs B N) g = (sb B.2.1 g && !decide (0 ≤ N.1 g)) := by
  have h : S10 (lbs N) ∧ ∀ g, 0 ≤ g → g < 10 → sb (lbs N) g = (decide (g < 10) && decide (0 ≤ N.1 g)) := lb_S (N := N) 10 (by omega) (by omega)
  unfold frs
  rw [sb_andn hB.2.1 h.1, h.2 g g0 g1, decide_eq_true (p := g < 10) g1, Bool.true_and]
theorem frs_put {B : gMB} {N : gMN} {g c : Int} (hI : Inv B N) (g0 : 0 ≤ g) (g1 : g < 10) (hc : 0 ≤ c) (h : (mput B N g c).1 = 0) : popc (frs B (mput B N g c).2) = popc (frs B N) - 1 := by
  obtain ⟨hB, hN, hD, hSp, hO⟩ := id hI
  obtain ⟨a, b, d, e⟩ := mput_0 h
  have p0 := (put_fits hB hN hD hSp g0 g1 b a hc d).1
  have e2 : frs B (mput B N g c).2 = sdel (frs B N) g := sb_ext (frs_S hB) (S10_sdel (frs_S hB) ⟨g0, g1⟩) (fun k k0 k1 => by
    rw [sb_frs hB k0 k1, sb_sdel (frs_S hB) ⟨g0, g1⟩ k0, sb_frs hB k0 k1, e]
    by_cases q : g = k
    · subst q; rw [mset_s1, decide_eq_true p0, decide_eq_true rfl]; simp
    · rw [mset_n1 (fun w => q w.symm), decide_eq_false q]; simp)
  rw [e2, popc_sdel (frs_S hB) ⟨g0, g1⟩, sb_frs hB g0 g1, a, decide_eq_false (by omega)]
  rfl
theorem rch_le {B : gMB} {p : Nat} : ∀ {N M : gMN}, Inv B N → Rch B p N M → (p : Int) ≤ popc (frs B N) ∧ hst B M ≤ hst B N + p := by
  induction p with
  | zero => intro N M hI h
            rw [show M = N from h]
            have := popc_r (frs B N)
            exact ⟨by omega, by omega⟩
  | succ p ih => intro N M hI ⟨g, c, hg, hc, hp, h⟩
                 have h1 := ih (inv_put hI hg.1 hg.2 hc.1) h
                 have h2 := frs_put hI hg.1 hg.2 hc.1 hp
                 have h3 := hst_mput hI hg.1 hg.2 hc.1 hp
                 exact ⟨by omega, by omega⟩
/-- what the climb answers -/
def Clb (B : gMB) (N : gMN) (puts b v : Int) : Prop := b ≤ v ∧ (v = b ∨ ∃ q M, Rch B q N M ∧ v = 4 * hst B M + 3 - (puts + q)) ∧ ∀ q M, Rch B q N M → 4 * hst B M + 3 - (puts + q) ≤ v
/-- best so far: the score of some wall by at most F puts -/
def Bst (F b : Int) : Prop := (0 ≤ b ∧ b ≤ 100) ∧ (b = 0 ∨ 3 - F ≤ b % 4)
theorem clb_bst {B : gMB} {N : gMN} {puts b v F : Int} (hI : Inv B N) (hF : puts + popc (frs B N) ≤ F) (F3 : F ≤ 3) (p0 : 0 ≤ puts) (hb : Bst F b) (h : Clb B N puts b v) : Bst F v := by
  obtain ⟨h1, h2, h3⟩ := h
  rcases h2 with h2 | ⟨q, M, hq, h2⟩
  · rw [h2]; exact hb
  · have hl := rch_le hI hq
    have hM := rch_inv hI hq
    have hh := hst_10 hM.1 hM.2.1
    exact ⟨⟨by omega, by omega⟩, Or.inr (by omega)⟩
