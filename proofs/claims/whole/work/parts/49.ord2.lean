/-! orders: the class goes down the tree -/
theorem orA_r {B : gMB} {col : Int → Int} {j : Nat} {N : gMN} {s i : Int} {f : Int → Int} {a : OA} : a.1 ≤ (orA B col j N s i f a).1 ∧ (orA B col j N s i f a).1 ≤ a.1 + p10 j := by
  have hp := p10_pos j
  refine itI_ind (P := fun k (b : OA) => a.1 ≤ b.1 ∧ b.1 ≤ a.1 + k) (by omega) ⟨by omega, by omega⟩ (fun k b k0 k1 h => ?_)
  unfold orF oadd
  split
  · dsimp only; omega
  · omega
theorem orG_r {B : gMB} {col : Int → Int} {j : Nat} {N : gMN} {s i : Int} {f : Int → Int} {a : OA} (k : Int) (h0 : 0 ≤ k) : a.1 ≤ (itI (orG B col j N s i f) 0 k a).1 ∧ (itI (orG B col j N s i f) 0 k a).1 ≤ a.1 + k * p10 j := by
  have hp := p10_pos j
  refine itI_ind (P := fun k (b : OA) => a.1 ≤ b.1 ∧ b.1 ≤ a.1 + k * p10 j) h0 ⟨by omega, by omega⟩ (fun k b k0 k1 h => ?_)
  rw [Int.add_mul]
  unfold orG
  split
  · have := orA_r (B := B) (col := col) (j := j) (N := (mput B N k (col k)).2) (s := sdel s k) (i := i + 1) (f := aset f i k) (a := b)
    omega
  · omega
def OR (m i : Int) (f : Int → Int) (a : OA) (O : gOO) : Prop := O.1 = a.1 ∧ (∀ k, 0 ≤ k → k < i → O.2.1 k = f k) ∧ (a.1 ≠ 0 → ∀ k, 0 ≤ k → k < m → O.2.2 k = a.2 k)
theorem popc_0 {s : Int} (hs : S10 s) (h : popc s = 0) : s = 0 := sb_ext hs S10_0 fun g g0 g1 => by
  have h1 := popc_sdel hs ⟨g0, g1⟩
  have h2 := popc_r (sdel s g)
  rw [sb_0]
  cases hb : sb s g
  · rfl
  · rw [hb] at h1; unfold bI at h1; rw [if_pos rfl] at h1; omega
theorem s_add {m : Int} {f : Int → Int} {a : OA} {O : gOO} {Q : gOO → Prop} (hm : m ≤ 6) (ha : 0 ≤ a.1 ∧ a.1 ≤ 2000000) (hO : OR m m f a O) (h : ∀ O', OR m m f (oadd f a) O' → Q O') : wp_X1_add O Q := by
  obtain ⟨e1, e2, e3⟩ := hO
  unfold wp_X1_add
  refine ⟨⟨by omega, by omega⟩, fun z => h _ ⟨by show _ + 1 = _ + 1; rw [e1], e2, fun _ k k0 k1 => ?_⟩, fun z => s_copy (by omega) (h _ ⟨by show _ + 1 = _ + 1; rw [e1], e2, fun _ k k0 k1 => ?_⟩)⟩
  · show O.2.2 k = (if a.1 = 0 then f else a.2) k
    rw [if_neg (by omega)]; exact e3 (by omega) k k0 k1
  · show acpy O.2.1 O.2.2 6 k = (if a.1 = 0 then f else a.2) k
    rw [if_pos (by omega), acpy_in k0 (by omega)]; exact e2 k k0 k1
theorem s_arrange {B : gMB} {S : gWS} {col : Int → Int} {OC : gOOC} (hS : SR B S) (j : Nat) : ∀ {e : Nat} {N : gMN} {T : gWT} {U : gWU} {O : gOO} {s i : Int} {f : Int → Int} {a : OA} {Q : gWT → gWU → gOO → Prop}, Inv B N → TR B N T → S10 s → popc s = j → 0 ≤ i → i + j ≤ 6 → (∀ g, 0 ≤ g → g < 10 → sb s g = true → OC g = col g ∧ 0 ≤ col g ∧ col g ≤ 1000) → 0 ≤ a.1 → a.1 + p10 j ≤ 2000000 → OR (i + j) i f a O → (∀ T' U' O', TR B N T' → OR (i + j) i f (orA B col j N s i f a) O' → Q T' U' O') → wp_X6_arrange (j + 1 + e) S T U OC O s i Q := by
  induction j with
  | zero =>
    intro e N T U O s i f a Q hI hT hs hp i0 i1 hc a0 a1 hO h
    rw [show 0 + 1 + e = e + 1 by omega]
    show wpb_X6_arrange (wp_X6_arrange e) S T U OC O s i Q
    have e0 := popc_0 hs (by omega)
    have hO : OR i i f a O := by simpa using hO
    unfold wpb_X6_arrange
    refine ⟨⟨by omega, by omega⟩, fun q => by omega, fun _ => ⟨fun _ => ⟨⟨by omega, by omega⟩, fun q => absurd e0 q, fun _ => ?_⟩, fun q => by omega⟩⟩
    refine s_add (by omega) ⟨a0, by have := p10_pos 0; omega⟩ hO (fun O' hO' => h T U O' hT ?_)
    rw [orA_0]; simpa using hO'
  | succ j ih =>
    intro e N T U O s i f a Q hI hT hs hp i0 i1 hc a0 a1 hO h
    have hj := p10_pos j
    have hj2 := p10_s j
    rw [show j + 1 + 1 + e = (j + 1 + e) + 1 by omega]
    show wpb_X6_arrange (wp_X6_arrange (j + 1 + e)) S T U OC O s i Q
    have e0 : s ≠ 0 := fun q => by
      rw [q] at hp
      have : popc 0 = 0 := by decide
      omega
    unfold wpb_X6_arrange
    refine ⟨⟨by omega, by omega⟩, fun q => by omega, fun _ => ⟨fun _ => ⟨⟨by have := hs.1; omega, by have := hs.2; omega⟩, fun _ => ?_, fun q => absurd e0 q⟩, fun q => by omega⟩⟩
    refine lp_inv (fun n g (x : gWT × gWU × gOO) => wp_X6_arrange_31 _ S OC _ Q n s i g x.1 x.2.1 x.2.2) 10 (fun g x => 0 ≤ g ∧ TR B N x.1 ∧ OR (i + (j + 1 : Nat)) i f (itI (orG B col j N s i f) 0 g a) x.2.2) ?_ ?_ 0 (T, U, O) (by omega) ⟨by omega, hT, by rw [itI_0 (by omega)]; exact hO⟩
    · rintro n ⟨T, U, O⟩ ⟨_, hT, hO⟩
      show wp_X6_arrange_31 _ S OC _ Q (n + 1) s i 10 T U O
      unfold wp_X6_arrange_31
      refine ⟨by decide, fun _ => h T U O hT ?_, fun q => absurd (Int.le_refl _) q⟩
      rw [orA_s]; exact hO
    · rintro n g ⟨T, U, O⟩ hlt ⟨g0, hT, hO⟩ ih2
      dsimp only at hT hO
      have next : itI (orG B col j N s i f) 0 (g + 1) a = orG B col j N s i f g (itI (orG B col j N s i f) 0 g a) := itI_s g0
      have hr := orG_r (B := B) (col := col) (j := j) (N := N) (s := s) (i := i) (f := f) (a := a) g g0
      have hg9 : g * p10 j ≤ 9 * p10 j := Int.mul_le_mul_of_nonneg_right (by omega) (by omega)
      generalize itI (orG B col j N s i f) 0 g a = b at *
      show wp_X6_arrange_31 _ S OC _ Q (n + 1) s i g T U O
      unfold wp_X6_arrange_31
      refine ⟨⟨by omega, by omega⟩, fun q => by omega, fun _ => s_hasBit hs ⟨by omega, by omega⟩ (fun _ _ x => ⟨fun q => absurd q (by decide), fun _ => ?_⟩) (fun x => ⟨fun _ => ih2 (T, U, O) ⟨by omega, hT, ?_⟩, fun q => absurd rfl q⟩)⟩
      · obtain ⟨c1, c2, c3⟩ := hc g g0 hlt x
        refine s_at ⟨g0, hlt⟩ (by decide) ?_
        rw [c1]
        have hI4 := inv_put (c := col g) hI g0 hlt c2
        have hpr := mput_r B N g (col g)
        refine s_put hI hS hT g0 hlt ⟨c2, c3⟩ (fun T4 U4 hT4 => ⟨⟨by omega, by omega⟩, fun z => ?_, fun z => ?_⟩)
        · rw [mput_n z] at hT4
          refine ih2 (T4, U4, O) ⟨by omega, hT4, ?_⟩
          rw [next, show orG B col j N s i f g b = b from if_neg (fun q => z q.2)]; exact hO
        · have z := Decidable.of_not_not z
          have hs2 := S10_sdel hs ⟨g0, hlt⟩
          have hp2 := popc_sdel hs ⟨g0, hlt⟩
          rw [x] at hp2
          have hp3 : popc (sdel s g) = (j : Int) := by rw [hp2, hp]; show _ - 1 = _; omega
          refine s_set ⟨i0, by omega⟩ (by decide) ?_
          refine ih (e := e) (N := (mput B N g (col g)).2) (s := sdel s g) (i := i + 1) (f := aset f i g) (a := b) hI4 hT4 hs2 hp3 (by omega) (by omega) (fun k k0 k1 hk => ?_) (by omega) (by omega) ⟨hO.1, fun k k0 k1 => ?_, fun q => ?_⟩ (fun T5 U5 O5 hT5 hO5 => ?_)
          · rw [sb_sdel hs ⟨g0, hlt⟩ k0, Bool.and_eq_true] at hk
            exact hc k k0 k1 hk.1
          · dsimp only
            by_cases ek : k = i
            · subst ek; rw [aset_s, aset_s]
            · rw [aset_n ek, aset_n ek]; exact hO.2.1 k k0 (by omega)
          · have := hO.2.2 q
            exact fun k k0 k1 => this k k0 (by omega)
          · refine s_unput hI hS g0 hlt c2 z hT5 (fun T6 hT6 => ih2 (T6, U5, O5) ⟨by omega, hT6, ?_⟩)
            rw [next, show orG B col j N s i f g b = orA B col j (mput B N g (col g)).2 (sdel s g) (i + 1) (aset f i g) b from if_pos ⟨x, z⟩]
            refine ⟨hO5.1, fun k k0 k1 => ?_, fun q k k0 k1 => hO5.2.2 q k k0 (by omega)⟩
            rw [hO5.2.1 k k0 (by omega), aset_n (by omega)]
      · rw [next, show orG B col j N s i f g b = b from if_neg (fun q => x ⟨g0, hlt, q.1⟩)]; exact hO
