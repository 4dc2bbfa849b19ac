/-! THE ABSTRACT WALL: what who, hgt, hld are; what holds of every wall of the calls -/
abbrev at_ (B : gMB) (N : gMN) (g r c : Int) : Prop := cov B N g c ∧ N.1 g = r
theorem who_last (B : gMB) (N : gMN) (r c : Int) (k : Int) (h0 : 0 ≤ k) : (itI (whoF B N r c) 0 k (-6) = -6 ∧ ∀ h, 0 ≤ h → h < k → ¬ at_ B N h r c) ∨ (0 ≤ itI (whoF B N r c) 0 k (-6) ∧ itI (whoF B N r c) 0 k (-6) < k ∧ at_ B N (itI (whoF B N r c) 0 k (-6)) r c ∧ ∀ h, itI (whoF B N r c) 0 k (-6) < h → h < k → ¬ at_ B N h r c) := by
  refine itI_ind (P := fun k f => (f = -6 ∧ ∀ h, 0 ≤ h → h < k → ¬ at_ B N h r c) ∨ (0 ≤ f ∧ f < k ∧ at_ B N f r c ∧ ∀ h, f < h → h < k → ¬ at_ B N h r c)) h0 (Or.inl ⟨rfl, fun h h1 h2 => by omega⟩) (fun i f h1 h2 h3 => ?_)
  by_cases e : at_ B N i r c
  · rw [show whoF B N r c i f = i from if_pos e]
    exact Or.inr ⟨h1, by omega, e, fun h h4 h5 => by omega⟩
  · rw [show whoF B N r c i f = f from if_neg e]
    rcases h3 with ⟨rfl, h4⟩ | ⟨h4, h5, h6, h7⟩
    · refine Or.inl ⟨rfl, fun h h5 h6 => ?_⟩
      by_cases eh : h = i
      · subst eh; exact e
      · exact h4 h h5 (by omega)
    · refine Or.inr ⟨h4, by omega, h6, fun h h8 h9 => ?_⟩
      by_cases eh : h = i
      · subst eh; exact e
      · exact h7 h h8 (by omega)
theorem who_cases (B : gMB) (N : gMN) (r c : Int) : (who B N r c = -6 ∧ ∀ h, 0 ≤ h → h < 10 → ¬ at_ B N h r c) ∨ (0 ≤ who B N r c ∧ who B N r c < 10 ∧ at_ B N (who B N r c) r c) := by
  rcases who_last B N r c 10 (by omega) with h | ⟨h1, h2, h3, -⟩
  · exact Or.inl h
  · exact Or.inr ⟨h1, h2, h3⟩
theorem who_none {B : gMB} {N : gMN} {r c : Int} (h : ∀ h, 0 ≤ h → h < 10 → ¬ at_ B N h r c) : who B N r c = -6 := by
  rcases who_cases B N r c with q | ⟨h1, h2, h3⟩
  · exact q.1
  · exact absurd h3 (h _ h1 h2)
/-- no two stones in one cell -/
def Dj (B : gMB) (N : gMN) : Prop := ∀ g h, 0 ≤ g → g < 10 → 0 ≤ h → h < 10 → 0 ≤ N.1 g → N.1 g = N.1 h → g ≠ h → N.2 g + B.2.2.1 g ≤ N.2 h ∨ N.2 h + B.2.2.1 h ≤ N.2 g
theorem Dj.uniq {B : gMB} {N : gMN} (hD : Dj B N) {g h r c : Int} (g0 : 0 ≤ g) (g1 : g < 10) (h0 : 0 ≤ h) (h1 : h < 10) (a : at_ B N g r c) (b : at_ B N h r c) : g = h := by
  refine Decidable.byContradiction fun e => ?_
  obtain ⟨⟨a1, a2, a3⟩, a4⟩ := a
  obtain ⟨⟨b1, b2, b3⟩, b4⟩ := b
  rcases hD g h g0 g1 h0 h1 a1 (a4.trans b4.symm) e with q | q <;> omega
theorem who_is {B : gMB} {N : gMN} (hD : Dj B N) {g r c : Int} (g0 : 0 ≤ g) (g1 : g < 10) (a : at_ B N g r c) : who B N r c = g := by
  rcases who_cases B N r c with q | ⟨h1, h2, h3⟩
  · exact absurd a (q.2 g g0 g1)
  · exact hD.uniq h1 h2 g0 g1 h3 a
theorem hgt_is (B : gMB) (N : gMN) (c : Int) : (∀ j, 0 ≤ j → j < 10 → cov B N j c → N.1 j + 1 ≤ hgt B N c) ∧ (hgt B N c = 0 ∨ ∃ j, 0 ≤ j ∧ j < 10 ∧ cov B N j c ∧ hgt B N c = N.1 j + 1) := by
  refine itI_ind (P := fun k h => (∀ j, 0 ≤ j → j < k → cov B N j c → N.1 j + 1 ≤ h) ∧ (h = 0 ∨ ∃ j, 0 ≤ j ∧ j < k ∧ cov B N j c ∧ h = N.1 j + 1)) (lo := 0) (hi := 10) (by omega) ⟨fun j h1 h2 => by omega, Or.inl rfl⟩ (fun i h h1 h2 h3 => ?_)
  obtain ⟨h3, h4⟩ := h3
  by_cases e : cov B N i c ∧ h ≤ N.1 i
  · rw [show hgtF B N c i h = N.1 i + 1 from if_pos e]
    refine ⟨fun j h5 h6 h7 => ?_, Or.inr ⟨i, h1, by omega, e.1, rfl⟩⟩
    by_cases ej : j = i
    · subst ej; omega
    · have := h3 j h5 (by omega) h7; omega
  · rw [show hgtF B N c i h = h from if_neg e]
    refine ⟨fun j h5 h6 h7 => ?_, ?_⟩
    · by_cases ej : j = i
      · subst ej
        by_cases e2 : h ≤ N.1 j
        · exact absurd ⟨h7, e2⟩ e
        · omega
      · exact h3 j h5 (by omega) h7
    · rcases h4 with h4 | ⟨j, a, b, d, f⟩
      · exact Or.inl h4
      · exact Or.inr ⟨j, a, by omega, d, f⟩
theorem hgt_eq {B : gMB} {N : gMN} {c h : Int} (h1 : ∀ j, 0 ≤ j → j < 10 → cov B N j c → N.1 j + 1 ≤ h) (h2 : h = 0 ∨ ∃ j, 0 ≤ j ∧ j < 10 ∧ cov B N j c ∧ h = N.1 j + 1) (h0 : 0 ≤ h) : hgt B N c = h := by
  obtain ⟨a, b⟩ := hgt_is B N c
  rcases b with b | ⟨j, b1, b2, b3, b4⟩
  · rcases h2 with h2 | ⟨i, d1, d2, d3, d4⟩
    · omega
    · have := a i d1 d2 d3
      have := d3.1
      omega
  · have := h1 j b1 b2 b3
    rcases h2 with h2 | ⟨i, d1, d2, d3, d4⟩
    · have := b3.1; omega
    · have := a i d1 d2 d3; omega
theorem hgt_0 (B : gMB) (N : gMN) (c : Int) : 0 ≤ hgt B N c := by
  rcases (hgt_is B N c).2 with h | ⟨j, h1, h2, h3, h4⟩
  · omega
  · have := h3.1; omega
/-- the cells below and at a height -/
theorem who_lt {B : gMB} {N : gMN} {r c : Int} (h : 0 ≤ who B N r c) : 0 ≤ r ∧ r < hgt B N c := by
  rcases who_cases B N r c with q | ⟨h1, h2, h3⟩
  · omega
  · have := (hgt_is B N c).1 _ h1 h2 h3.1
    have := h3.1.1
    have := h3.2
    omega
theorem who_top {B : gMB} {N : gMN} {c : Int} (h : 0 < hgt B N c) : 0 ≤ who B N (hgt B N c - 1) c := by
  rcases (hgt_is B N c).2 with q | ⟨j, h1, h2, h3, h4⟩
  · omega
  · rcases who_cases B N (hgt B N c - 1) c with q | q
    · exact absurd ⟨h3, by omega⟩ (q.2 j h1 h2)
    · exact q.1
/-- the wall's numbers are in range; a stone out has -6 and -6 -/
def NOk (B : gMB) (N : gMN) : Prop := (Z10 N.1 ∧ Z10 N.2) ∧ ∀ g, 0 ≤ g → g < 10 → (N.1 g = -6 ∧ N.2 g = -6) ∨ (0 ≤ N.1 g ∧ N.1 g ≤ 9 ∧ 0 ≤ N.2 g ∧ N.2 g + B.2.2.1 g ≤ B.1 ∧ sb B.2.1 g = true)
theorem NOk.nr {B : gMB} {N : gMN} (hB : BOk B) (h : NOk B N) : NR B N := fun g h0 h1 => by
  have hw := (hB.2.2 g h0 h1).1
  have hn := hB.1
  rcases h.2 g h0 h1 with ⟨a, b⟩ | ⟨a, b, c, d, _⟩
  · exact ⟨by omega, by omega, hw⟩
  · exact ⟨by omega, by omega, hw⟩
theorem NOk.out {B : gMB} {N : gMN} (h : NOk B N) {g : Int} (h0 : 0 ≤ g) (h1 : g < 10) (a : N.1 g < 0) : N.1 g = -6 ∧ N.2 g = -6 := by
  rcases h.2 g h0 h1 with q | q
  · exact q
  · omega
/-- something is right below one of its cells -/
def Sup (B : gMB) (N : gMN) : Prop := ∀ g, 0 ≤ g → g < 10 → 0 < N.1 g → ∃ h c, 0 ≤ h ∧ h < 10 ∧ at_ B N h (N.1 g - 1) c ∧ cov B N g c
def NoOv (B : gMB) (N : gMN) : Prop := ∀ q, 0 ≤ q → q < 10 → 0 ≤ N.1 q → ldA B N q ≤ 60466176 * B.2.2.2.2 q
def Inv (B : gMB) (N : gMN) : Prop := BOk B ∧ NOk B N ∧ Dj B N ∧ Sup B N ∧ NoOv B N
def cn (N : gMN) (k : Int) : Int := sm (fun h => if 0 ≤ N.1 h ∧ N.1 h ≤ k then 1 else 0) 0 10
theorem row_ex {B : gMB} {N : gMN} (hS : Sup B N) : ∀ (d : Nat) (g : Int), 0 ≤ g → g < 10 → 0 ≤ N.1 g → (d : Int) ≤ N.1 g → ∃ h, 0 ≤ h ∧ h < 10 ∧ N.1 h = N.1 g - d := by
  intro d
  induction d with
  | zero => intro g h0 h1 h2 h3; exact ⟨g, h0, h1, by omega⟩
  | succ d ih =>
    intro g h0 h1 h2 h3
    obtain ⟨h, e1, e2, e3⟩ := ih g h0 h1 h2 (by omega)
    obtain ⟨k, c, a1, a2, a3, -⟩ := hS h e1 e2 (by omega)
    exact ⟨k, a1, a2, by have := a3.2; omega⟩
theorem cn_ge {B : gMB} {N : gMN} (hS : Sup B N) {g : Int} (h0 : 0 ≤ g) (h1 : g < 10) (k : Nat) (hk : (k : Int) ≤ N.1 g) : (k : Int) + 1 ≤ cn N k := by
  have step : ∀ j : Nat, (j : Int) ≤ N.1 g → cn N ((j : Int) - 1) + 1 ≤ cn N j := by
    intro j hj
    obtain ⟨h, a1, a2, a3⟩ := row_ex hS (N.1 g - j).toNat g h0 h1 (by omega) (by omega)
    have a4 : N.1 h = (j : Int) := by omega
    have e := sm_upd (f := fun h => if 0 ≤ N.1 h ∧ N.1 h ≤ (j : Int) - 1 then 1 else 0) (f' := fun q => if q = h then 1 else if 0 ≤ N.1 q ∧ N.1 q ≤ (j : Int) - 1 then 1 else 0) (lo := 0) (hi := 10) (g := h) a1 a2 (fun q _ _ e => if_neg e)
    rw [if_pos rfl, if_neg (by omega)] at e
    have l := sm_le (f := fun q => if q = h then 1 else if 0 ≤ N.1 q ∧ N.1 q ≤ (j : Int) - 1 then 1 else 0) (g := fun q => if 0 ≤ N.1 q ∧ N.1 q ≤ (j : Int) then 1 else 0) (lo := 0) (hi := 10) (fun q _ _ => by
      by_cases e1 : q = h
      · subst e1; rw [if_pos rfl, if_pos (by omega)]; omega
      · rw [if_neg e1]
        by_cases e2 : 0 ≤ N.1 q ∧ N.1 q ≤ (j : Int) - 1
        · rw [if_pos e2, if_pos (by omega)]; omega
        · rw [if_neg e2]; split <;> omega)
    unfold cn
    omega
  induction k with
  | zero =>
    have a := step 0 hk
    have b : 0 ≤ cn N (((0 : Nat) : Int) - 1) := by
      have := sm_le (f := fun _ => 0) (g := fun h => if 0 ≤ N.1 h ∧ N.1 h ≤ ((0 : Nat) : Int) - 1 then 1 else 0) (lo := 0) (hi := 10) (fun k _ _ => by split <;> omega)
      rw [sm_const (by omega)] at this
      unfold cn; omega
    omega
  | succ k ih =>
    have a := step (k + 1) hk
    have b := ih (by omega)
    rw [show ((k + 1 : Nat) : Int) - 1 = (k : Int) by omega] at a
    omega
/-- with a stone out, no row is above the eighth -/
theorem row_le {B : gMB} {N : gMN} (hS : Sup B N) {g x : Int} (h0 : 0 ≤ g) (h1 : g < 10) (x0 : 0 ≤ x) (x1 : x < 10) (hx : N.1 x < 0) : N.1 g ≤ 8 := by
  by_cases hg : 0 ≤ N.1 g
  · have a := cn_ge hS h0 h1 (N.1 g).toNat (by omega)
    rw [show ((N.1 g).toNat : Int) = N.1 g by omega] at a
    have b := sm_le (f := fun h => if 0 ≤ N.1 h ∧ N.1 h ≤ N.1 g then 1 else 0) (g := fun h => if h = x then 0 else 1) (lo := 0) (hi := 10) (fun k _ _ => by
      by_cases e : k = x
      · subst e; rw [if_pos rfl, if_neg (by omega)]; omega
      · rw [if_neg e]; split <;> omega)
    have c := sm_upd (f := fun _ => 1) (f' := fun h => if h = x then 0 else 1) (lo := 0) (hi := 10) (g := x) x0 x1 (fun q _ _ e => if_neg e)
    rw [if_pos rfl, sm_const (by omega)] at c
    unfold cn at a
    omega
  · omega
theorem hgt_le {B : gMB} {N : gMN} (hS : Sup B N) {x c : Int} (x0 : 0 ≤ x) (x1 : x < 10) (hx : N.1 x < 0) : hgt B N c ≤ 9 := by
  rcases (hgt_is B N c).2 with h | ⟨j, h1, h2, h3, h4⟩
  · omega
  · have := row_le hS h1 h2 x0 x1 hx; omega
/-- a stone more, a stone less -/
def mset (N : gMN) (g r c : Int) : gMN := (aset N.1 g r, aset N.2 g c)
theorem mset_s1 {N : gMN} {g r c : Int} : (mset N g r c).1 g = r := aset_s
theorem mset_s2 {N : gMN} {g r c : Int} : (mset N g r c).2 g = c := aset_s
theorem mset_n1 {N : gMN} {g r c h : Int} (e : h ≠ g) : (mset N g r c).1 h = N.1 h := aset_n e
theorem mset_n2 {N : gMN} {g r c h : Int} (e : h ≠ g) : (mset N g r c).2 h = N.2 h := aset_n e
theorem cov_n {B : gMB} {N : gMN} {g r c h k : Int} (e : h ≠ g) : cov B (mset N g r c) h k ↔ cov B N h k := by unfold cov; rw [mset_n1 e, mset_n2 e]
theorem at_n {B : gMB} {N : gMN} {g r c h q k : Int} (e : h ≠ g) : at_ B (mset N g r c) h q k ↔ at_ B N h q k := by unfold at_; rw [cov_n e, mset_n1 e]
theorem cov_s {B : gMB} {N : gMN} {g r c k : Int} : cov B (mset N g r c) g k ↔ 0 ≤ r ∧ c ≤ k ∧ k < c + B.2.2.1 g := by unfold cov; rw [mset_s1, mset_s2]
theorem at_s {B : gMB} {N : gMN} {g r c q k : Int} : at_ B (mset N g r c) g q k ↔ (0 ≤ r ∧ c ≤ k ∧ k < c + B.2.2.1 g) ∧ r = q := by unfold at_; rw [cov_s, mset_s1]
theorem mset_back {N : gMN} {g r c : Int} (h : N.1 g = -6 ∧ N.2 g = -6) : mset (mset N g r c) g (-6) (-6) = N := by
  refine Prod.ext (funext fun j => ?_) (funext fun j => ?_)
  · by_cases e : j = g
    · subst e; exact aset_s.trans h.1.symm
    · exact (aset_n e).trans (aset_n e)
  · by_cases e : j = g
    · subst e; exact aset_s.trans h.2.symm
    · exact (aset_n e).trans (aset_n e)
/-- who lies where with a stone more (its cells were free) -/
theorem who_put {B : gMB} {N : gMN} (hD : Dj B N) {g r c : Int} (g0 : 0 ≤ g) (g1 : g < 10) (hg : N.1 g < 0) (hr : 0 ≤ r) (hf : ∀ k, c ≤ k → k < c + B.2.2.1 g → who B N r k < 0) (q k : Int) : who B (mset N g r c) q k = if q = r ∧ c ≤ k ∧ k < c + B.2.2.1 g then g else who B N q k := by
  split
  · rename_i h
    obtain ⟨rfl, h1, h2⟩ := h
    have hw := hf k h1 h2
    rcases who_cases B (mset N g q c) q k with ⟨e, a⟩ | ⟨a1, a2, a3⟩
    · exact absurd (at_s.mpr ⟨⟨hr, h1, h2⟩, rfl⟩) (a g g0 g1)
    · refine Decidable.byContradiction fun e => ?_
      have := who_is hD a1 a2 ((at_n e).mp a3)
      omega
  · rename_i h
    rcases who_cases B N q k with ⟨e, a⟩ | ⟨a1, a2, a3⟩
    · rw [e]
      refine who_none (fun h2 b0 b1 b => ?_)
      by_cases eh : h2 = g
      · subst eh
        obtain ⟨⟨d1, d2, d3⟩, d4⟩ := at_s.mp b
        exact h ⟨d4.symm, d2, d3⟩
      · exact a h2 b0 b1 ((at_n eh).mp b)
    · have ne : who B N q k ≠ g := fun e => by have := a3.1.1; rw [e] at this; omega
      rcases who_cases B (mset N g r c) q k with ⟨e, b⟩ | ⟨b1, b2, b3⟩
      · exact absurd ((at_n ne).mpr a3) (b _ a1 a2)
      · by_cases eh : who B (mset N g r c) q k = g
        · rw [eh] at b3
          obtain ⟨⟨d1, d2, d3⟩, d4⟩ := at_s.mp b3
          exact absurd ⟨d4.symm, d2, d3⟩ h
        · exact (who_is hD b1 b2 ((at_n eh).mp b3)).symm ▸ rfl
theorem hgt_put {B : gMB} {N : gMN} {g r c : Int} (g0 : 0 ≤ g) (g1 : g < 10) (hg : N.1 g < 0) (hr : 0 ≤ r) (hf : ∀ k, c ≤ k → k < c + B.2.2.1 g → hgt B N k ≤ r) (k : Int) : hgt B (mset N g r c) k = if c ≤ k ∧ k < c + B.2.2.1 g then r + 1 else hgt B N k := by
  obtain ⟨a, b⟩ := hgt_is B N k
  split
  · rename_i h
    refine hgt_eq (fun j h0 h1 h2 => ?_) (Or.inr ⟨g, g0, g1, cov_s.mpr ⟨hr, h⟩, by rw [mset_s1]⟩) (by omega)
    by_cases e : j = g
    · subst e; rw [mset_s1]; omega
    · rw [mset_n1 e]
      have := a j h0 h1 ((cov_n e).mp h2)
      have := hf k h.1 h.2
      omega
  · rename_i h
    refine hgt_eq (fun j h0 h1 h2 => ?_) ?_ (hgt_0 B N k)
    · by_cases e : j = g
      · subst e; exact absurd (cov_s.mp h2).2 h
      · rw [mset_n1 e]; exact a j h0 h1 ((cov_n e).mp h2)
    · rcases b with b | ⟨j, b1, b2, b3, b4⟩
      · exact Or.inl b
      · have e : j ≠ g := fun e => by subst e; have := b3.1; omega
        exact Or.inr ⟨j, b1, b2, (cov_n e).mpr b3, by rw [mset_n1 e]; exact b4⟩
/-- who lies where with a stone less -/
theorem who_out {B : gMB} {N : gMN} (hD : Dj B N) {g : Int} (g0 : 0 ≤ g) (g1 : g < 10) (q k : Int) : who B (mset N g (-6) (-6)) q k = if who B N q k = g then -6 else who B N q k := by
  rcases who_cases B N q k with ⟨e, a⟩ | ⟨a1, a2, a3⟩
  · rw [e, if_neg (by omega)]
    refine who_none (fun h b0 b1 b => ?_)
    by_cases eh : h = g
    · subst eh; have := (at_s.mp b).1.1; omega
    · exact a h b0 b1 ((at_n eh).mp b)
  · split
    · rename_i e
      refine who_none (fun h b0 b1 b => ?_)
      by_cases eh : h = g
      · subst eh; have := (at_s.mp b).1.1; omega
      · have := who_is hD b0 b1 ((at_n eh).mp b)
        omega
    · rename_i e
      rcases who_cases B (mset N g (-6) (-6)) q k with ⟨e2, b⟩ | ⟨b1, b2, b3⟩
      · exact absurd ((at_n e).mpr a3) (b _ a1 a2)
      · by_cases eh : who B (mset N g (-6) (-6)) q k = g
        · rw [eh] at b3; have := (at_s.mp b3).1.1; omega
        · exact (who_is hD b1 b2 ((at_n eh).mp b3)).symm
