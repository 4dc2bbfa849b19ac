/-! who, look: the reference's answers -/
theorem p100_2 {p : Nat} (h : p ≤ 2) : p100 p ≤ 10000 := by
  rcases (by omega : p = 0 ∨ p = 1 ∨ p = 2) with rfl | rfl | rfl <;> decide
theorem WA_r {B : gMB} {H : gMG} {N : gMN} {p : Int} (p0 : 0 ≤ p) (p2 : p ≤ 2) : 0 ≤ WA B N p (phC B H) ∧ WA B N p (phC B H) ≤ 10000 := by
  obtain ⟨k, rfl⟩ := Int.eq_ofNat_of_zero_le p0
  have h := WS_r (B := B) (φ := phC B H) phC_r (p := k) (N := N) (b := 0)
  have := p100_2 (show k ≤ 2 by omega)
  unfold WA
  rw [Int.toNat_natCast]
  omega
theorem s_X7_who {B : gMB} {P : gMP} {N : gMN} {L : gML} {G : gGG} {H : gMG} {Z : gMZ} {R : gMR} {p w : Int} {Q : Int → gMN → gML → gMZ → gMR → Prop} (hI : Inv B P) (hN : Scr N L) (hG : GR B.1 G H) (hp : rI p) (hw : rI w) (h : ∀ v N' L' Z' R', Scr N' L' → VWho B H P p w v → Q v N' L' Z' R') : wp_X7_who B P N L H Z R p w Q := by
  unfold wp_X7_who
  refine s_X7_in hp (by decide) (by decide) (fun p0 p2 => ⟨fun q => absurd q (by decide), fun _ => ?_⟩) (fun q => ⟨fun _ => h _ _ _ _ _ hN ⟨fun _ => rfl, fun z => absurd z.1 q⟩, fun z => absurd rfl z⟩)
  refine s_X7_in hw (by decide) (by decide) (fun w0 w2 => ⟨fun _ => ?_, fun q => absurd (by decide) q⟩) (fun q => ⟨fun z => absurd rfl z, fun _ => h _ _ _ _ _ hN ⟨fun _ => rfl, fun z => absurd z.2 q⟩⟩)
  have hin : (0 ≤ p ∧ p ≤ 2) ∧ (0 ≤ w ∧ w ≤ 2) := ⟨⟨p0, p2⟩, w0, w2⟩
  have hr := WA_r (B := B) (H := H) (N := P) p0 p2
  obtain ⟨k, rfl⟩ := Int.eq_ofNat_of_zero_le p0
  refine s_X7_layWho hI hN hG (by omega) (fun N' L' Z' R' hs hR => ?_)
  obtain ⟨h0, h1, h2, h3, h4⟩ := hR
  refine ⟨hw, fun a => ⟨fun b => ⟨⟨by omega, by omega⟩, fun c => h _ _ _ _ _ hs ⟨fun z => absurd hin z, fun _ => ⟨fun z => absurd z a, fun z => absurd z b, fun _ => ⟨h3.1, fun _ => h3.2, fun z => absurd (h1.trans z) c⟩⟩⟩, fun c => h _ _ _ _ _ hs ⟨fun z => absurd hin z, fun _ => ⟨fun z => absurd z a, fun z => absurd z b, fun _ => ⟨S10_0, fun z => absurd (h1.symm.trans (Decidable.of_not_not c)) z, fun _ => rfl⟩⟩⟩⟩, fun b => h _ _ _ _ _ hs ⟨fun z => absurd hin z, fun _ => ⟨fun z => absurd z a, fun _ => h2, fun z => by omega⟩⟩⟩, fun a => h _ _ _ _ _ hs ⟨fun z => absurd hin z, fun _ => ⟨fun _ => h1, fun z => by omega, fun z => by omega⟩⟩⟩
theorem s_rseen {B : gMB} {G : gGG} {H : gMG} {N : gMN} {L : gML} {Z : gMZ} {R : gMR} {x2 x3 x4 c : Int} {K : Int → Int → Int → Int → Int → gMN → gML → gMZ → gMR → Prop} {Q : Int → gMN → gML → gMZ → gMR → Prop} (hB : BOk B) (hG : GR B.1 G H) (hc : rI c) (h : K x2 x3 x4 c (bI (seenB H c)) N L Z R) : ∃ m, wp_X7_look_58 H K Q m x2 x3 x4 c 0 0 N L Z R := by
  have hn := hB.1
  obtain ⟨e1, e2, e3⟩ := hG
  refine lp_inv (fun n i (f : Int) => wp_X7_look_58 H K Q n x2 x3 x4 c f i N L Z R) H.1 (fun i f => 0 ≤ i ∧ ((f = 0 ∧ ∀ k, 0 ≤ k → k < i → H.2 (2 * k) ≠ c) ∨ (f = 1 ∧ seenB H c = true))) ?_ ?_ 0 0 (by omega) ⟨by omega, Or.inl ⟨rfl, fun k _ _ => by omega⟩⟩
  · rintro n f ⟨i0, e⟩
    show wp_X7_look_58 _ _ _ (n + 1) _ _ _ _ _ _ _ _ _ _
    unfold wp_X7_look_58
    refine ⟨⟨by omega, by omega⟩, ⟨by omega, by omega⟩, fun _ => ?_, fun q => absurd (Int.le_refl _) q⟩
    rcases e with ⟨rfl, e⟩ | ⟨rfl, e⟩
    · have hs : seenB H c = false := by
        cases hs : seenB H c
        · rfl
        · obtain ⟨k, k0, k1, z⟩ := (seen_iff i0).mp hs
          exact absurd z (e k k0 k1)
      rw [hs] at h; exact h
    · rw [e] at h; exact h
  · rintro n i f hlt ⟨i0, e⟩ ih
    obtain ⟨f1, f2, f3, f4⟩ := e3 i i0 hlt
    show wp_X7_look_58 _ _ _ (n + 1) _ _ _ _ _ _ _ _ _ _
    unfold wp_X7_look_58
    rcases e with ⟨rfl, e⟩ | ⟨rfl, e⟩
    · refine ⟨⟨by omega, by omega⟩, ⟨by omega, by omega⟩, fun q => by omega, fun _ => ⟨by decide, fun q => absurd rfl q, fun _ => ⟨⟨by omega, by omega⟩, ⟨by omega, by omega⟩, hc, fun z => ih 0 ⟨by omega, Or.inl ⟨rfl, fun k k0 k1 => ?_⟩⟩, fun z => ih 1 ⟨by omega, Or.inr ⟨rfl, (seen_iff (by omega)).mpr ⟨i, i0, hlt, Decidable.of_not_not z⟩⟩⟩⟩⟩⟩
      by_cases q : k = i
      · subst q; exact z
      · exact e k k0 (by omega)
    · exact ⟨⟨by omega, by omega⟩, ⟨by omega, by omega⟩, fun q => by omega, fun _ => ⟨by decide, fun _ => ih 1 ⟨by omega, Or.inr ⟨rfl, e⟩⟩, fun q => absurd (by decide) q⟩⟩
theorem s_rmost {B : gMB} {H : gMG} {A : RA} {N : gMN} {L : gML} {Z : gMZ} {R : gMR} {x2 x3 x4 c x6 : Int} {K : Int → Int → Int → Int → Int → Int → gMN → gML → gMZ → gMR → Prop} {Q : Int → gMN → gML → gMZ → gMR → Prop} (hB : BOk B) (hR : RRm B H A R) (hA : A (phC B H) ≤ 10000) (c0 : 0 ≤ c) (c1 : c < B.1) (h : K x2 x3 x4 c x6 (mostF B H A c) N L Z R) : ∃ m, wp_X7_look_105 K Q m x2 x3 x4 c x6 0 0 N L Z R := by
  have hn := hB.1
  obtain ⟨h0, h1, h2, h3, h4⟩ := hR
  refine lp_inv (fun n i (x : Int) => wp_X7_look_105 K Q n x2 x3 x4 c x6 x i N L Z R) 11 (fun i x => 0 ≤ i ∧ (0 ≤ x ∧ x ≤ A (phC B H)) ∧ x = itI (fun h m => max m (A (phT B H c h))) 0 i 0) ?_ ?_ 0 0 (by omega) ⟨by omega, ⟨Int.le_refl 0, h0.1⟩, (itI_0 (by omega)).symm⟩
  · rintro n x ⟨_, _, rfl⟩
    show wp_X7_look_105 _ _ (n + 1) _ _ _ _ _ _ _ _ _ _ _
    unfold wp_X7_look_105
    exact ⟨by decide, fun _ => h, fun q => absurd (Int.le_refl _) q⟩
  · rintro n i x hlt ⟨i0, xr, e⟩ ih
    show wp_X7_look_105 _ _ (n + 1) _ _ _ _ _ _ _ _ _ _ _
    unfold wp_X7_look_105
    have := h0.2.2 c i
    rw [h4 c i c0 c1 i0 hlt]
    refine ⟨⟨by omega, by omega⟩, fun q => by omega, fun _ => ⟨⟨by omega, by omega⟩, ⟨by omega, by omega⟩, ⟨by omega, by omega⟩, fun z => ih _ ⟨by omega, by omega, ?_⟩, fun z => ih _ ⟨by omega, by omega, ?_⟩⟩⟩
    · rw [itI_s i0, ← e]; omega
    · rw [itI_s i0, ← e]; omega
theorem s_X7_look {B : gMB} {P : gMP} {N : gMN} {L : gML} {G : gGG} {H : gMG} {Z : gMZ} {R : gMR} {p w : Int} {Q : Int → gMN → gML → gMZ → gMR → Prop} (hI : Inv B P) (hN : Scr N L) (hG : GR B.1 G H) (hp : rI p) (hw : rI w) (h : ∀ N' L' Z' R', Scr N' L' → Q (vLook B H P p w) N' L' Z' R') : wp_X7_look B P N L H Z R p w Q := by
  have hB := hI.1
  have hn := hB.1
  unfold wp_X7_look
  unfold vLook at h
  refine s_X7_in hp (by decide) (by decide) (fun p0 p2 => ⟨fun q => absurd q (by decide), fun _ => ?_⟩) (fun q => ⟨fun _ => by rw [if_neg (fun z => q z.1)] at h; exact h _ _ _ _ hN, fun z => absurd rfl z⟩)
  refine s_X7_in hw (by decide) (by decide) (fun w0 w2 => ⟨fun _ => ?_, fun q => absurd (by decide) q⟩) (fun q => ⟨fun z => absurd rfl z, fun _ => by rw [if_neg (fun z => q z.2)] at h; exact h _ _ _ _ hN⟩)
  rw [if_pos ⟨⟨p0, p2⟩, w0, w2⟩] at h
  have hr := WA_r (B := B) (H := H) (N := P) p0 p2
  obtain ⟨k, rfl⟩ := Int.eq_ofNat_of_zero_le p0
  refine s_X7_layWho hI hN hG (by omega) (fun N' L' Z' R' hs hR => ?_)
  obtain ⟨A, eA⟩ : ∃ A : RA, WA B P (k : Int) = A := ⟨_, rfl⟩
  rw [eA] at h hR hr
  have h1 := hR.2.1
  by_cases z : A (phC B H) = 0
  · rw [if_pos z] at h
    have k : wp_X7_look_207 Q w (-6) 1000000 N' L' Z' R' := by
      unfold wp_X7_look_207
      exact ⟨by decide, fun _ => h _ _ _ _ hs, fun q => absurd (by decide) q⟩
    refine ⟨1, ?_⟩
    unfold wp_X7_look_36
    exact ⟨by decide, ⟨by omega, by omega⟩, fun _ => k, fun _ => ⟨⟨by omega, by omega⟩, fun _ => k, fun q => absurd (by omega) q⟩⟩
  rw [if_neg z] at h
  refine lp_inv (fun m c (s : Int × Int) => wp_X7_look_36 B H (fun (x2 : Int) (x3 : Int) (x4 : Int) (N_h : gMN) (L_h : gML) (Z_h : gMZ) (R_h : gMR) => wp_X7_look_207 Q x2 x3 x4 N_h L_h Z_h R_h) Q m w s.1 s.2 c N' L' Z' R') B.1 (fun c s => 0 ≤ c ∧ s.1 = (itI (lkF B H A) 0 c (-6, -6)).1 ∧ (s.1 = -6 ∧ s.2 = 1000000 ∧ (itI (lkF B H A) 0 c (-6, -6)).2 = -6 ∨ (0 ≤ s.1 ∧ s.1 < B.1) ∧ s.2 = (itI (lkF B H A) 0 c (-6, -6)).2 ∧ 0 ≤ s.2 ∧ s.2 ≤ 10000)) ?_ ?_ 0 (-6, 1000000) (by omega) ⟨by omega, by rw [itI_0 (by omega)], Or.inl ⟨rfl, rfl, by rw [itI_0 (by omega)]⟩⟩
  · rintro m s ⟨_, e1, e2⟩
    have l1 : (lkV B H A).1 = (itI (lkF B H A) 0 B.1 (-6, -6)).1 := rfl
    have l2 : (lkV B H A).2 = (itI (lkF B H A) 0 B.1 (-6, -6)).2 := rfl
    show wp_X7_look_36 _ _ _ _ (m + 1) _ _ _ _ _ _ _ _
    unfold wp_X7_look_36 wp_X7_look_207
    refine ⟨⟨by omega, by omega⟩, ⟨by omega, by omega⟩, fun _ => ⟨⟨by omega, by omega⟩, fun a => ?_, fun a => ⟨hw, fun b => ?_, fun b => ?_⟩⟩, fun q => absurd (Int.le_refl _) q⟩
    · by_cases b : w = 0
      · rw [if_pos b] at h
        rw [show s.1 = (lkV B H A).1 by omega]; exact h _ _ _ _ hs
      · rw [if_neg b] at h
        rw [show s.1 = (lkV B H A).2 by omega]; exact h _ _ _ _ hs
    · rw [if_neg b] at h
      rw [show s.2 = (lkV B H A).2 by omega]; exact h _ _ _ _ hs
    · rw [if_pos (Decidable.of_not_not b)] at h
      rw [show s.1 = (lkV B H A).1 by omega]; exact h _ _ _ _ hs
  · rintro m c s hlt ⟨c0, e1, e2⟩ ih
    have ef : itI (lkF B H A) 0 (c + 1) (-6, -6) = lkF B H A c (itI (lkF B H A) 0 c (-6, -6)) := itI_s c0
    have hm := most_r (c := c) hR.1
    obtain ⟨s', es⟩ : ∃ s', itI (lkF B H A) 0 c (-6, -6) = s' := ⟨_, rfl⟩
    rw [es] at e1 e2 ef
    show wp_X7_look_36 _ _ _ _ (m + 1) _ _ _ _ _ _ _ _
    unfold wp_X7_look_36
    refine ⟨⟨by omega, by omega⟩, ⟨by omega, by omega⟩, fun q => by omega, fun _ => ⟨⟨by omega, by omega⟩, fun q => by omega, fun _ => s_rseen hB hG ⟨by omega, by omega⟩ (s_rmost hB hR hr.2 c0 hlt ?_)⟩⟩
    have keep : lkF B H A c s' = s' → wp_X7_look_173 (fun (x2 : Int) (x3 : Int) (x4 : Int) (x5 : Int) (N_h : gMN) (L_h : gML) (Z_h : gMZ) (R_h : gMR) => wp_X7_look_36 B H (fun (x2 : Int) (x3 : Int) (x4 : Int) (N_h : gMN) (L_h : gML) (Z_h : gMZ) (R_h : gMR) => wp_X7_look_207 Q x2 x3 x4 N_h L_h Z_h R_h) Q m x2 x3 x4 x5 N_h L_h Z_h R_h) Q w s.1 s.2 c (mostF B H A c) 0 N' L' Z' R' := fun e => by
      unfold wp_X7_look_173 wp_X7_look_186
      exact ⟨by decide, fun _ => ⟨by decide, fun _ => ih s ⟨by omega, by rw [ef, e]; exact e1, by rw [ef, e]; exact e2⟩, fun q => absurd rfl q⟩, fun q => absurd rfl q⟩
    have take : lkF B H A c s' = (c, mostF B H A c) → wp_X7_look_173 (fun (x2 : Int) (x3 : Int) (x4 : Int) (x5 : Int) (N_h : gMN) (L_h : gML) (Z_h : gMZ) (R_h : gMR) => wp_X7_look_36 B H (fun (x2 : Int) (x3 : Int) (x4 : Int) (N_h : gMN) (L_h : gML) (Z_h : gMZ) (R_h : gMR) => wp_X7_look_207 Q x2 x3 x4 N_h L_h Z_h R_h) Q m x2 x3 x4 x5 N_h L_h Z_h R_h) Q w s.1 s.2 c (mostF B H A c) 1 N' L' Z' R' := fun e => by
      unfold wp_X7_look_173 wp_X7_look_186
      exact ⟨by decide, fun q => absurd q (by decide), fun _ => ⟨by decide, fun q => absurd q (by decide), fun _ => ih (c, mostF B H A c) ⟨by omega, by rw [ef, e], Or.inr ⟨⟨c0, hlt⟩, by rw [ef, e], hm.1, by show mostF B H A c ≤ 10000; omega⟩⟩⟩⟩
    cases y : seenB H c
    · refine ⟨by decide, fun q => absurd rfl q, fun _ => ⟨⟨by omega, by omega⟩, ⟨by omega, by omega⟩, fun q => keep ?_, fun q => take ?_⟩⟩
      · unfold lkF; rw [if_neg (by rw [y]; decide), if_neg (by omega)]
      · unfold lkF; rw [if_neg (by rw [y]; decide), if_pos (by omega)]
    · exact ⟨by decide, fun _ => keep (by unfold lkF; rw [if_pos y]), fun q => absurd (by decide) q⟩
