/-! THE REFERENCE over an abstract wall: B = (n, guests, wide, weight, bears), N = (row, column) of each guest's stone. -/
def Z10 (f : Int → Int) : Prop := ∀ j, (j < 0 ∨ 10 ≤ j) → f j = 0
theorem Z10_set {f : Int → Int} {i v : Int} (h : Z10 f) (hi : 0 ≤ i ∧ i < 10) : Z10 (aset f i v) := fun j hj => by
  rw [aset_n (by omega)]; exact h j hj
theorem Z10_ext {f g : Int → Int} (hf : Z10 f) (hg : Z10 g) (h : ∀ i, 0 ≤ i → i < 10 → f i = g i) : f = g := by
  funext j
  by_cases hj : 0 ≤ j ∧ j < 10
  · exact h j hj.1 hj.2
  · rw [hf j (by omega), hg j (by omega)]
def BOk (B : gMB) : Prop := (2 ≤ B.1 ∧ B.1 ≤ 9) ∧ S10 B.2.1 ∧ ∀ g, 0 ≤ g → g < 10 → (0 ≤ B.2.2.1 g ∧ B.2.2.1 g ≤ 3) ∧ (0 ≤ B.2.2.2.1 g ∧ B.2.2.2.1 g ≤ 20) ∧ (0 ≤ B.2.2.2.2 g ∧ B.2.2.2.2 g ≤ 200) ∧ (sb B.2.1 g = true → 1 ≤ B.2.2.1 g ∧ 1 ≤ B.2.2.2.1 g)
def NR (B : gMB) (N : gMN) : Prop := ∀ g, 0 ≤ g → g < 10 → (-6 ≤ N.1 g ∧ N.1 g ≤ 10) ∧ (-6 ≤ N.2 g ∧ N.2 g ≤ 9) ∧ (0 ≤ B.2.2.1 g ∧ B.2.2.1 g ≤ 3)
abbrev cov (B : gMB) (N : gMN) (g c : Int) : Prop := 0 ≤ N.1 g ∧ N.2 g ≤ c ∧ c < N.2 g + B.2.2.1 g
def whoF (B : gMB) (N : gMN) (r c : Int) : Int → Int → Int := fun g f => if cov B N g c ∧ N.1 g = r then g else f
def who (B : gMB) (N : gMN) (r c : Int) : Int := itI (whoF B N r c) 0 10 (-6)
def hgtF (B : gMB) (N : gMN) (c : Int) : Int → Int → Int := fun g h => if cov B N g c ∧ h ≤ N.1 g then N.1 g + 1 else h
def hgt (B : gMB) (N : gMN) (c : Int) : Int := itI (hgtF B N c) 0 10 0
def hstF (B : gMB) (N : gMN) : Int → Int → Int := fun c h => if h < hgt B N c then hgt B N c else h
def hst (B : gMB) (N : gMN) : Int := itI (hstF B N) 0 B.1 0
def hldF (B : gMB) (N : gMN) (g : Int) : Int → Int → Int := fun c a => if N.1 g = 0 ∨ 0 ≤ who B N (N.1 g - 1) c then a + 1 else a
def hld (B : gMB) (N : gMN) (g : Int) : Int := itI (hldF B N g) (N.2 g) (N.2 g + B.2.2.1 g) 0
abbrev stn (B : gMB) (N : gMN) (g : Int) : Prop := B.2.2.1 g ≤ 2 * hld B N g
theorem s_X7_in {x lo hi : Int} {Q : Int → Prop} (hx : rI x) (hl : rI lo) (hh : rI hi) (h1 : lo ≤ x → x ≤ hi → Q 1) (h0 : ¬ (lo ≤ x ∧ x ≤ hi) → Q 0) : wp_X7_in x lo hi Q := by
  unfold wp_X7_in
  exact ⟨hx, hl, fun a => h0 (fun q => by omega), fun a => ⟨hh, fun b => h0 (fun q => by omega), fun b => h1 (by omega) (by omega)⟩⟩
theorem s_X7_has {s g : Int} {Q : Int → Prop} (hs : S10 s) (hg : 0 ≤ g ∧ g < 10) (h1 : sb s g = true → Q 1) (h0 : sb s g = false → Q 0) : wp_X7_has s g Q := by
  unfold wp_X7_has
  rw [has10 hs hg]
  cases hb : sb s g
  · exact ⟨by decide, fun _ => h0 hb, fun h => absurd (by decide) h⟩
  · exact ⟨by decide, fun h => absurd rfl h, fun _ => h1 hb⟩
theorem bI_01 (b : Bool) : 0 ≤ bI b ∧ bI b ≤ 1 := by cases b <;> decide
theorem s_X7_bits {s : Int} {Q : Int → Prop} (hs : S10 s) (h : Q (popc s)) : wp_X7_bits s Q := by
  unfold wp_X7_bits
  refine lp_inv (fun m i (a : Int) => wp_X7_bits_4 (fun x1 => Q x1) Q m s a i) 10 (fun i a => 0 ≤ i ∧ a = itI (fun k a => a + bI (sb s k)) 0 i 0) ?_ ?_ 0 0 (by omega) ⟨by omega, (itI_0 (by omega)).symm⟩
  · rintro m a ⟨hi, rfl⟩
    show wp_X7_bits_4 _ _ (m + 1) _ _ _
    unfold wp_X7_bits_4
    exact ⟨by decide, fun _ => h, fun q => absurd (Int.le_refl 10) q⟩
  · rintro m i a hlt ⟨hi, rfl⟩ ih
    show wp_X7_bits_4 _ _ (m + 1) _ _ _
    unfold wp_X7_bits_4
    refine ⟨⟨by omega, by omega⟩, fun q => by omega, fun _ => ?_⟩
    rw [has10 hs ⟨hi, hlt⟩]
    exact ih _ ⟨by omega, by rw [itI_s hi]⟩
theorem s_X7_isIn {B : gMB} {N : gMN} {g : Int} {Q : Int → Prop} (hR : NR B N) (hg : 0 ≤ g ∧ g < 10) (h1 : 0 ≤ N.1 g → Q 1) (h0 : N.1 g < 0 → Q 0) : wp_X7_isIn N g Q := by
  obtain ⟨r1, r2, r3⟩ := hR g hg.1 hg.2
  unfold wp_X7_isIn
  exact ⟨hg, ⟨by omega, by omega⟩, h0, fun a => h1 (by omega)⟩
theorem s_X7_covers {B : gMB} {N : gMN} {g c : Int} {Q : Int → Prop} (hR : NR B N) (hg : 0 ≤ g ∧ g < 10) (hc : rI c) (h1 : cov B N g c → Q 1) (h0 : ¬ cov B N g c → Q 0) : wp_X7_covers B N g c Q := by
  obtain ⟨r1, r2, r3⟩ := hR g hg.1 hg.2
  unfold wp_X7_covers
  refine s_X7_isIn hR hg (fun a => ?_) (fun a => ?_)
  · refine ⟨fun h => absurd h (by decide), fun _ => ⟨hg, hc, ⟨by omega, by omega⟩, fun b => h0 (fun q => ?_), fun b => ⟨⟨by omega, by omega⟩, fun d => h0 (fun q => ?_), fun d => h1 ⟨a, by omega, by omega⟩⟩⟩⟩
    · have := q.2.1; omega
    · have := q.2.2; omega
  · exact ⟨fun _ => h0 (fun q => by have := q.1; omega), fun h => absurd rfl h⟩
theorem s_X7_whose {B : gMB} {N : gMN} {r c : Int} {Q : Int → Prop} (hR : NR B N) (hr : rI r) (hc : rI c) (h : Q (who B N r c)) : wp_X7_whose B N r c Q := by
  unfold wp_X7_whose
  refine lp_inv (fun m i (f : Int) => wp_X7_whose_6 B N (fun x3 => Q x3) Q m r c f i) 10 (fun i f => 0 ≤ i ∧ f = itI (whoF B N r c) 0 i (-6)) ?_ ?_ 0 (-6) (by omega) ⟨by omega, (itI_0 (by omega)).symm⟩
  · rintro m f ⟨hi, rfl⟩
    show wp_X7_whose_6 _ _ _ _ (m + 1) _ _ _ _
    unfold wp_X7_whose_6
    exact ⟨by decide, fun _ => h, fun q => absurd (Int.le_refl 10) q⟩
  · rintro m i f hlt ⟨hi, rfl⟩ ih
    obtain ⟨r1, r2, r3⟩ := hR i hi hlt
    show wp_X7_whose_6 _ _ _ _ (m + 1) _ _ _ _
    unfold wp_X7_whose_6
    refine ⟨⟨by omega, by omega⟩, fun q => by omega, fun _ => ?_⟩
    refine s_X7_covers hR ⟨hi, hlt⟩ hc (fun a => ?_) (fun a => ?_)
    · refine ⟨fun h => absurd h (by decide), fun _ => ⟨⟨hi, hlt⟩, ⟨by omega, by omega⟩, hr, fun b => ?_, fun b => ?_⟩⟩
      · exact ih _ ⟨by omega, by rw [itI_s hi]; exact (if_neg (fun q => b q.2)).symm⟩
      · exact ih _ ⟨by omega, by rw [itI_s hi]; exact (if_pos ⟨a, Decidable.of_not_not b⟩).symm⟩
    · exact ⟨fun _ => ih _ ⟨by omega, by rw [itI_s hi]; exact (if_neg (fun q => a q.1)).symm⟩, fun h => absurd rfl h⟩
theorem hgt_rng {B : gMB} {N : gMN} {c : Int} (hR : NR B N) (i : Int) (h0 : 0 ≤ i) (h1 : i ≤ 10) : 0 ≤ itI (hgtF B N c) 0 i 0 ∧ itI (hgtF B N c) 0 i 0 ≤ 11 := by
  refine itI_ind (P := fun _ h => 0 ≤ h ∧ h ≤ 11) h0 ⟨by omega, by omega⟩ (fun k a h2 h3 h4 => ?_)
  obtain ⟨r1, r2, r3⟩ := hR k h2 (by omega)
  unfold hgtF
  split
  · omega
  · exact h4
theorem s_X7_heightOf {B : gMB} {N : gMN} {c : Int} {Q : Int → Prop} (hR : NR B N) (hc : rI c) (h : Q (hgt B N c)) : wp_X7_heightOf B N c Q := by
  unfold wp_X7_heightOf
  refine lp_inv (fun m i (f : Int) => wp_X7_heightOf_4 B N (fun x2 => Q x2) Q m c f i) 10 (fun i f => 0 ≤ i ∧ f = itI (hgtF B N c) 0 i 0) ?_ ?_ 0 0 (by omega) ⟨by omega, (itI_0 (by omega)).symm⟩
  · rintro m f ⟨hi, rfl⟩
    show wp_X7_heightOf_4 _ _ _ _ (m + 1) _ _ _
    unfold wp_X7_heightOf_4
    exact ⟨by decide, fun _ => h, fun q => absurd (Int.le_refl 10) q⟩
  · rintro m i f hlt ⟨hi, rfl⟩ ih
    obtain ⟨r1, r2, r3⟩ := hR i hi hlt
    have r4 := hgt_rng (c := c) hR i hi (by omega)
    show wp_X7_heightOf_4 _ _ _ _ (m + 1) _ _ _
    unfold wp_X7_heightOf_4
    refine ⟨⟨by omega, by omega⟩, fun q => by omega, fun _ => ?_⟩
    refine s_X7_covers hR ⟨hi, hlt⟩ hc (fun a => ?_) (fun a => ?_)
    · refine ⟨fun h => absurd h (by decide), fun _ => ⟨⟨hi, hlt⟩, ⟨by omega, by omega⟩, ⟨by omega, by omega⟩, fun b => ?_, fun b => ?_⟩⟩
      · exact ih _ ⟨by omega, by rw [itI_s hi]; exact (if_neg (fun q => by have := q.2; omega)).symm⟩
      · exact ih _ ⟨by omega, by rw [itI_s hi]; exact (if_pos ⟨a, by omega⟩).symm⟩
    · exact ⟨fun _ => ih _ ⟨by omega, by rw [itI_s hi]; exact (if_neg (fun q => a q.1)).symm⟩, fun h => absurd rfl h⟩
theorem hgt_r {B : gMB} {N : gMN} {c : Int} (hR : NR B N) : 0 ≤ hgt B N c ∧ hgt B N c ≤ 11 := hgt_rng hR 10 (by omega) (by omega)
theorem hst_rng {B : gMB} {N : gMN} (hR : NR B N) (i : Int) (h0 : 0 ≤ i) : 0 ≤ itI (hstF B N) 0 i 0 ∧ itI (hstF B N) 0 i 0 ≤ 11 := by
  refine itI_ind (P := fun _ h => 0 ≤ h ∧ h ≤ 11) h0 ⟨by omega, by omega⟩ (fun k a h2 h3 h4 => ?_)
  have := hgt_r (c := k) hR
  unfold hstF
  split
  · omega
  · exact h4
theorem s_X7_highest {B : gMB} {N : gMN} {Q : Int → Prop} (hB : BOk B) (hR : NR B N) (h : Q (hst B N)) : wp_X7_highest B N Q := by
  have hn := hB.1
  unfold wp_X7_highest
  refine lp_inv (fun m i (f : Int) => wp_X7_highest_4 B N (fun x1 => Q x1) Q m f i) B.1 (fun i f => 0 ≤ i ∧ f = itI (hstF B N) 0 i 0) ?_ ?_ 0 0 (by omega) ⟨by omega, (itI_0 (by omega)).symm⟩
  · rintro m f ⟨hi, rfl⟩
    show wp_X7_highest_4 _ _ _ _ (m + 1) _ _
    unfold wp_X7_highest_4
    exact ⟨⟨by omega, by omega⟩, ⟨by omega, by omega⟩, fun _ => h, fun q => absurd (Int.le_refl _) q⟩
  · rintro m i f hlt ⟨hi, rfl⟩ ih
    have r4 := hst_rng hR i hi
    have r5 := hgt_r (c := i) hR
    show wp_X7_highest_4 _ _ _ _ (m + 1) _ _
    unfold wp_X7_highest_4
    refine ⟨⟨by omega, by omega⟩, ⟨by omega, by omega⟩, fun q => by omega, fun _ => ?_⟩
    refine s_X7_heightOf hR ⟨by omega, by omega⟩ ⟨⟨by omega, by omega⟩, ⟨by omega, by omega⟩, fun a => ?_, fun a => ?_⟩
    · exact ih _ ⟨by omega, by rw [itI_s hi]; exact (if_neg (by omega)).symm⟩
    · refine s_X7_heightOf hR ⟨by omega, by omega⟩ ?_
      exact ih _ ⟨by omega, by rw [itI_s hi]; exact (if_pos (by omega)).symm⟩
theorem who_rng {B : gMB} {N : gMN} {r c : Int} : who B N r c = -6 ∨ (0 ≤ who B N r c ∧ who B N r c < 10) := by
  refine itI_ind (P := fun _ f => f = -6 ∨ (0 ≤ f ∧ f < 10)) (by omega) (Or.inl rfl) (fun k a h2 h3 h4 => ?_)
  unfold whoF
  split
  · omega
  · exact h4
theorem hld_rng {B : gMB} {N : gMN} {g : Int} (i : Int) (h0 : N.2 g ≤ i) : 0 ≤ itI (hldF B N g) (N.2 g) i 0 ∧ itI (hldF B N g) (N.2 g) i 0 ≤ i - N.2 g := by
  refine itI_ind (P := fun k h => 0 ≤ h ∧ h ≤ k - N.2 g) h0 ⟨by omega, by omega⟩ (fun k a h2 h3 h4 => ?_)
  unfold hldF
  split <;> omega
theorem hld_r {B : gMB} {N : gMN} {g : Int} (hw : 0 ≤ B.2.2.1 g) : 0 ≤ hld B N g ∧ hld B N g ≤ B.2.2.1 g := by
  have := hld_rng (B := B) (N := N) (g := g) (N.2 g + B.2.2.1 g) (by omega)
  unfold hld; omega
theorem s_X7_held {B : gMB} {N : gMN} {g : Int} {Q : Int → Prop} (hR : NR B N) (hg : 0 ≤ g ∧ g < 10) (h : Q (hld B N g)) : wp_X7_held B N g Q := by
  obtain ⟨r1, r2, r3⟩ := hR g hg.1 hg.2
  unfold wp_X7_held
  refine ⟨hg, ?_⟩
  refine lp_inv (fun m i (f : Int) => wp_X7_held_9 B N (fun x2 => Q x2) Q m g f i) (N.2 g + B.2.2.1 g) (fun i f => N.2 g ≤ i ∧ f = itI (hldF B N g) (N.2 g) i 0) ?_ ?_ (N.2 g) 0 (by omega) ⟨by omega, (itI_0 (by omega)).symm⟩
  · rintro m f ⟨hi, rfl⟩
    show wp_X7_held_9 _ _ _ _ (m + 1) _ _ _
    unfold wp_X7_held_9
    exact ⟨hg, ⟨by omega, by omega⟩, ⟨by omega, by omega⟩, fun _ => h, fun q => absurd (Int.le_refl _) q⟩
  · rintro m i f hlt ⟨hi, rfl⟩ ih
    show wp_X7_held_9 _ _ _ _ (m + 1) _ _ _
    unfold wp_X7_held_9
    refine ⟨hg, ⟨by omega, by omega⟩, ⟨by omega, by omega⟩, fun q => by omega, fun _ => ⟨⟨by omega, by omega⟩, fun a => ?_, fun a => ?_⟩⟩
    · exact ih _ ⟨by omega, by rw [itI_s hi]; exact (if_pos (Or.inl a)).symm⟩
    · refine s_X7_whose hR ⟨by omega, by omega⟩ ⟨by omega, by omega⟩ ?_
      have hw := @who_rng B N (N.1 g - 1) i
      refine ⟨⟨by omega, by omega⟩, fun b => ?_, fun b => ?_⟩
      · refine ih _ ⟨by omega, ?_⟩
        rw [itI_s hi]
        show _ = hldF B N g i _
        unfold hldF
        rw [if_neg (by omega)]; omega
      · refine ih _ ⟨by omega, ?_⟩
        rw [itI_s hi]
        show _ = hldF B N g i _
        unfold hldF
        rw [if_pos (by omega)]
theorem s_X7_stands {B : gMB} {N : gMN} {g : Int} {Q : Int → Prop} (hR : NR B N) (hg : 0 ≤ g ∧ g < 10) (h1 : stn B N g → Q 1) (h0 : ¬ stn B N g → Q 0) : wp_X7_stands B N g Q := by
  obtain ⟨r1, r2, r3⟩ := hR g hg.1 hg.2
  unfold wp_X7_stands
  refine s_X7_held hR hg ?_
  have := hld_r (B := B) (N := N) (g := g) r3.1
  exact ⟨hg, ⟨by omega, by omega⟩, ⟨by omega, by omega⟩, fun a => h0 (by unfold stn; omega), fun a => h1 (by unfold stn; omega)⟩
theorem s_X7_take {N : gMN} {g : Int} {Q : gMN → Prop} (hg : 0 ≤ g ∧ g < 10) (h : Q (aset N.1 g (-6), aset N.2 g (-6))) : wp_X7_take N g Q := by
  unfold wp_X7_take
  exact ⟨hg, h⟩
theorem s_X7_asNow {P : gMP} {N : gMN} {Q : gMN → Prop} (hP : Z10 P.1 ∧ Z10 P.2) (hN : Z10 N.1 ∧ Z10 N.2) (h : Q P) : wp_X7_asNow P N Q := by
  unfold wp_X7_asNow
  refine lp_inv (fun m i (f : gMN) => wp_X7_asNow_2 P (fun N => Q N) Q m i f) 10 (fun i f => 0 ≤ i ∧ (Z10 f.1 ∧ Z10 f.2) ∧ ∀ g, 0 ≤ g → g < i → f.1 g = P.1 g ∧ f.2 g = P.2 g) ?_ ?_ 0 N (by omega) ⟨by omega, hN, fun g h1 h2 => by omega⟩
  · rintro m f ⟨hi, hz, he⟩
    show wp_X7_asNow_2 _ _ _ (m + 1) _ _
    unfold wp_X7_asNow_2
    have e1 : f.1 = P.1 := Z10_ext hz.1 hP.1 (fun g h1 h2 => (he g h1 h2).1)
    have e2 : f.2 = P.2 := Z10_ext hz.2 hP.2 (fun g h1 h2 => (he g h1 h2).2)
    have e : f = P := Prod.ext e1 e2
    subst e
    exact ⟨by decide, fun _ => h, fun q => absurd (Int.le_refl 10) q⟩
  · rintro m i f hlt ⟨hi, hz, he⟩ ih
    show wp_X7_asNow_2 _ _ _ (m + 1) _ _
    unfold wp_X7_asNow_2
    refine ⟨⟨by omega, by omega⟩, fun q => by omega, fun _ => ⟨⟨hi, hlt⟩, ?_⟩⟩
    refine ih _ ⟨by omega, ⟨Z10_set hz.1 ⟨hi, hlt⟩, Z10_set hz.2 ⟨hi, hlt⟩⟩, fun g h1 h2 => ?_⟩
    by_cases e : g = i
    · subst e; exact ⟨aset_s, aset_s⟩
    · exact ⟨(aset_n e).trans (he g h1 (by omega)).1, (aset_n e).trans (he g h1 (by omega)).2⟩
