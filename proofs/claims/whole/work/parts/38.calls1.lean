/-! calls 1 to 11, both sides -/
def bcE (x0 : Int) : Int := (iand (((iand (((iand (x0 - (iand (iushr x0 1) 1431655765)) 858993459) + (iand (iushr (x0 - (iand (iushr x0 1) 1431655765)) 2) 858993459)) + (iushr ((iand (x0 - (iand (iushr x0 1) 1431655765)) 858993459) + (iand (iushr (x0 - (iand (iushr x0 1) 1431655765)) 2) 858993459)) 4)) 252645135) + (iushr (iand (((iand (x0 - (iand (iushr x0 1) 1431655765)) 858993459) + (iand (iushr (x0 - (iand (iushr x0 1) 1431655765)) 2) 858993459)) + (iushr ((iand (x0 - (iand (iushr x0 1) 1431655765)) 858993459) + (iand (iushr (x0 - (iand (iushr x0 1) 1431655765)) 2) 858993459)) 4)) 252645135) 8)) + (iushr ((iand (((iand (x0 - (iand (iushr x0 1) 1431655765)) 858993459) + (iand (iushr (x0 - (iand (iushr x0 1) 1431655765)) 2) 858993459)) + (iushr ((iand (x0 - (iand (iushr x0 1) 1431655765)) 858993459) + (iand (iushr (x0 - (iand (iushr x0 1) 1431655765)) 2) 858993459)) 4)) 252645135) + (iushr (iand (((iand (x0 - (iand (iushr x0 1) 1431655765)) 858993459) + (iand (iushr (x0 - (iand (iushr x0 1) 1431655765)) 2) 858993459)) + (iushr ((iand (x0 - (iand (iushr x0 1) 1431655765)) 858993459) + (iand (iushr (x0 - (iand (iushr x0 1) 1431655765)) 2) 858993459)) 4)) 252645135) 8)) 16)) 63)
theorem bc_b : (List.range 1024).all (fun n => decide (bcE (n : Int) = popc (n : Int))) = true := by decide +kernel
theorem s_bitCount {s : Int} {Q : Int → Prop} (hs : S10 s) (h : Q (popc s)) : wp_J6_bitCount_0f7a4 s Q := by
  obtain ⟨n, hn, rfl⟩ := S10_n hs
  have e : bcE (n : Int) = popc (n : Int) := of_decide_eq_true (List.all_eq_true.mp bc_b n (List.mem_range.mpr hn))
  show Q (bcE (n : Int))
  rw [e]; exact h
theorem popc_r (s : Int) : 0 ≤ popc s ∧ popc s ≤ 10 := by
  have := itI_ind (f := fun k a => a + bI (sb s k)) (s := 0) (P := fun k a => 0 ≤ a ∧ a ≤ k) (lo := 0) (hi := 10) (by omega) ⟨by omega, by omega⟩ (fun k a _ _ h => by
    have := bI_01 (sb s k); omega)
  exact this
theorem s_guest {B : gMB} {N : gMN} {S : gWS} {T : gWT} {g w h b : Int} {Q : Int → gWS → Prop} (hI : Inv B N) (hS : SR B S) (hT : TR B N T) (r1 : rI g) (r2 : rI w) (r3 : rI h) (r4 : rI b) (h1 : vGuest B N g w h b = popc (ior B.2.1 (ishl 1 g)) → (0 ≤ g ∧ g < 10) → ((1 ≤ w ∧ w ≤ 3) ∧ (1 ≤ h ∧ h ≤ 20) ∧ (0 ≤ b ∧ b ≤ 200)) → N.1 g < 0 → ∀ S', SR (bgive B g w h b) S' → Q (vGuest B N g w h b) S') (h0 : ¬ ((0 ≤ g ∧ g < 10) ∧ ((1 ≤ w ∧ w ≤ 3) ∧ (1 ≤ h ∧ h ≤ 20) ∧ (0 ≤ b ∧ b ≤ 200)) ∧ N.1 g < 0) → Q (vGuest B N g w h b) S) : wp_X6_guest S T g w h b Q := by
  unfold wp_X6_guest
  refine s_isNoGuest r1 (fun a1 a2 => ⟨fun _ => ?_, fun q => absurd rfl q⟩) (fun a => ⟨fun q => absurd q (by decide), fun _ => ?_⟩)
  · have out : ¬ ((1 ≤ w ∧ w ≤ 3) ∧ (1 ≤ h ∧ h ≤ 20) ∧ (0 ≤ b ∧ b ≤ 200)) → Q (-2) S := fun z => by
      have := h0 (fun q => z q.2.1)
      unfold vGuest at this
      rw [if_neg (fun q => q ⟨a1, a2⟩), if_pos z] at this
      exact this
    refine s_isOutside r2 (by decide) (by decide) (fun b1 b2 => ⟨fun q => absurd rfl q, fun _ => ?_⟩) (fun z => ⟨fun _ => out (fun q => z q.1), fun q => absurd (by decide) q⟩)
    refine s_isOutside r3 (by decide) (by decide) (fun c1 c2 => ⟨fun q => absurd rfl q, fun _ => ?_⟩) (fun z => ⟨fun _ => out (fun q => z q.2.1), fun q => absurd (by decide) q⟩)
    refine s_isOutside r4 (by decide) (by decide) (fun d1 d2 => ⟨fun _ => ?_, fun q => absurd rfl q⟩) (fun z => ⟨fun q => absurd q (by decide), fun _ => out (fun q => z q.2.2)⟩)
    refine s_isLaid hT a1 (by omega) (fun z => ⟨fun q => absurd q (by decide), fun _ => ?_⟩) (fun z => ⟨fun _ => ?_, fun q => absurd rfl q⟩)
    · have := h0 (fun q => by omega)
      unfold vGuest at this
      rw [if_neg (fun q => q ⟨a1, a2⟩), if_neg (fun q => q ⟨⟨b1, b2⟩, ⟨c1, c2⟩, d1, d2⟩), if_pos z] at this
      exact this
    · have ev : vGuest B N g w h b = popc (ior B.2.1 (ishl 1 g)) := by
        unfold vGuest
        rw [if_neg (fun q => q ⟨a1, a2⟩), if_neg (fun q => q ⟨⟨b1, b2⟩, ⟨c1, c2⟩, d1, d2⟩), if_neg (by omega)]
      have hh := h1 ev ⟨a1, by omega⟩ ⟨⟨b1, b2⟩, ⟨c1, c2⟩, d1, d2⟩ z
      rw [ev] at hh
      unfold wp_X5_give
      refine s_set ⟨a1, by omega⟩ (by omega) (s_set ⟨a1, by omega⟩ (by omega) (s_set ⟨a1, by omega⟩ (by omega) ?_))
      have hs : S10 (ior B.2.1 (ishl 1 g)) := S10_or hI.1.2.1 (S10_shl ⟨a1, by omega⟩)
      dsimp only
      rw [hS.2.1]
      refine s_bitCount hs (hh _ ⟨hS.1, rfl, fun k k0 k1 => ?_⟩)
      show aset S.2.2.1 g w k = aset B.2.2.1 g w k ∧ aset S.2.2.2.1 g h k = aset B.2.2.2.1 g h k ∧ aset S.2.2.2.2 g b k = aset B.2.2.2.2 g b k
      by_cases e : k = g
      · subst e; rw [aset_s, aset_s, aset_s, aset_s, aset_s, aset_s]; exact ⟨rfl, rfl, rfl⟩
      · rw [aset_n e, aset_n e, aset_n e, aset_n e, aset_n e, aset_n e]; exact hS.2.2 k k0 k1
  · have := h0 (fun q => a ⟨q.1.1, by omega⟩)
    unfold vGuest at this
    rw [if_pos a] at this
    exact this
theorem s_X7_guest {B : gMB} {P : gMP} {g w h b : Int} {Q : Int → gMB → Prop} (hI : Inv B P) (r1 : rI g) (r2 : rI w) (r3 : rI h) (r4 : rI b) (h1 : (0 ≤ g ∧ g < 10) → ((1 ≤ w ∧ w ≤ 3) ∧ (1 ≤ h ∧ h ≤ 20) ∧ (0 ≤ b ∧ b ≤ 200)) → P.1 g < 0 → Q (vGuest B P g w h b) (bgive B g w h b)) (h0 : ¬ ((0 ≤ g ∧ g < 10) ∧ ((1 ≤ w ∧ w ≤ 3) ∧ (1 ≤ h ∧ h ≤ 20) ∧ (0 ≤ b ∧ b ≤ 200)) ∧ P.1 g < 0) → Q (vGuest B P g w h b) B) : wp_X7_guest B P g w h b Q := by
  unfold wp_X7_guest
  refine s_X7_in r1 (by decide) (by decide) (fun a1 a2 => ⟨fun _ => ?_, fun q => absurd (by decide) q⟩) (fun a => ⟨fun q => absurd rfl q, fun _ => ?_⟩)
  · have hr := hI.2.1.nr hI.1 g a1 (by omega)
    have out : ¬ ((1 ≤ w ∧ w ≤ 3) ∧ (1 ≤ h ∧ h ≤ 20) ∧ (0 ≤ b ∧ b ≤ 200)) → Q (-2) B := fun z => by
      have := h0 (fun q => z q.2.1)
      unfold vGuest at this
      rw [if_neg (fun q => q ⟨a1, a2⟩), if_pos z] at this
      exact this
    refine s_X7_in r2 (by decide) (by decide) (fun b1 b2 => ⟨fun q => absurd q (by decide), fun _ => ?_⟩) (fun z => ⟨fun _ => out (fun q => z q.1), fun q => absurd rfl q⟩)
    refine s_X7_in r3 (by decide) (by decide) (fun c1 c2 => ⟨fun q => absurd q (by decide), fun _ => ?_⟩) (fun z => ⟨fun _ => out (fun q => z q.2.1), fun q => absurd rfl q⟩)
    refine s_X7_in r4 (by decide) (by decide) (fun d1 d2 => ⟨fun _ => ⟨⟨a1, by omega⟩, ⟨by omega, by omega⟩, fun z => ?_, fun z => ?_⟩, fun q => absurd (by decide) q⟩) (fun z => ⟨fun q => absurd rfl q, fun _ => out (fun q => z q.2.2)⟩)
    · have hh := h1 ⟨a1, by omega⟩ ⟨⟨b1, b2⟩, ⟨c1, c2⟩, d1, d2⟩ z
      unfold vGuest at hh
      rw [if_neg (fun q => q ⟨a1, a2⟩), if_neg (fun q => q ⟨⟨b1, b2⟩, ⟨c1, c2⟩, d1, d2⟩), if_neg (by omega)] at hh
      exact s_X7_bits (S10_or hI.1.2.1 (S10_shl ⟨a1, by omega⟩)) hh
    · have := h0 (fun q => by omega)
      unfold vGuest at this
      rw [if_neg (fun q => q ⟨a1, a2⟩), if_neg (fun q => q ⟨⟨b1, b2⟩, ⟨c1, c2⟩, d1, d2⟩), if_pos (by omega)] at this
      exact this
  · have := h0 (fun q => a ⟨q.1.1, by omega⟩)
    unfold vGuest at this
    rw [if_pos a] at this
    exact this
/-! say -/
def vSay (D : gMD) (s : Int) : Int := if ¬ (33 ≤ s ∧ s ≤ 126) then -2 else if D.1 = 60 then -4 else D.1 + 1
theorem s_say {P : gPP} {D : gMD} {s : Int} {Q : Int → gPP → Prop} (hP : PadR P D) (hs : rI s) (h1 : (33 ≤ s ∧ s ≤ 126) → D.1 < 60 → ∀ P', PadR P' (D.1 + 1, aset D.2 D.1 s) → Q (vSay D s) P') (h0 : ¬ ((33 ≤ s ∧ s ≤ 126) ∧ D.1 < 60) → Q (vSay D s) P) : wp_X6_say P s Q := by
  have hd := hP.2.1
  unfold wp_X6_say
  refine s_isOutside hs (by decide) (by decide) (fun a b => ⟨fun _ => ?_, fun q => absurd rfl q⟩) (fun a => ⟨fun q => absurd q (by decide), fun _ => ?_⟩)
  · rw [hP.1]
    refine ⟨⟨by omega, by omega⟩, fun z => ?_, fun z => ?_⟩
    · unfold wp_X2_add
      have := h1 ⟨a, b⟩ z
      unfold vSay at this
      rw [if_neg (fun q => q ⟨a, b⟩), if_neg (by omega)] at this
      rw [hP.1]
      refine s_set ⟨by omega, by omega⟩ (by omega) (this _ ⟨rfl, ⟨by show 0 ≤ D.1 + 1; omega, by show D.1 + 1 ≤ 60; omega⟩, fun j j0 j1 => ?_⟩)
      show aset P.2 D.1 s j = aset D.2 D.1 s j ∧ 33 ≤ aset D.2 D.1 s j ∧ aset D.2 D.1 s j ≤ 126
      have j1 : j < D.1 + 1 := j1
      by_cases e : j = D.1
      · subst e; rw [aset_s, aset_s]; exact ⟨rfl, a, b⟩
      · rw [aset_n e, aset_n e]; exact hP.2.2 j j0 (by omega)
    · have := h0 (fun q => z q.2)
      unfold vSay at this
      rw [if_neg (fun q => q ⟨a, b⟩), if_pos (by omega)] at this
      exact this
  · have := h0 (fun q => a q.1)
    unfold vSay at this
    rw [if_pos a] at this
    exact this
theorem s_X7_say {D : gMD} {s : Int} {Q : Int → gMD → Prop} (hd : 0 ≤ D.1 ∧ D.1 ≤ 60) (hs : rI s) (h1 : (33 ≤ s ∧ s ≤ 126) → D.1 < 60 → Q (vSay D s) (D.1 + 1, aset D.2 D.1 s)) (h0 : ¬ ((33 ≤ s ∧ s ≤ 126) ∧ D.1 < 60) → Q (vSay D s) D) : wp_X7_say D s Q := by
  unfold wp_X7_say
  refine s_X7_in hs (by decide) (by decide) (fun a b => ⟨fun _ => ⟨⟨by omega, by omega⟩, fun z => ⟨⟨by omega, by omega⟩, ?_⟩, fun z => ?_⟩, fun q => absurd (by decide) q⟩) (fun a => ⟨fun q => absurd rfl q, fun _ => ?_⟩)
  · have := h1 ⟨a, b⟩ (by omega)
    unfold vSay at this
    rw [if_neg (fun q => q ⟨a, b⟩), if_neg z] at this
    exact this
  · have := h0 (fun q => by omega)
    unfold vSay at this
    rw [if_neg (fun q => q ⟨a, b⟩), if_pos (Decidable.of_not_not z)] at this
    exact this
  · have := h0 (fun q => a q.1)
    unfold vSay at this
    rw [if_pos a] at this
    exact this
/-! judge, done, state, behind, height -/
def vJudge (B : gMB) (D : gMD) (N : gMN) (w : Int) : Int := if ¬ (0 ≤ w ∧ w ≤ 1) then -2 else if ff B.1 D ≠ -6 then -5 else if (yr B D N).1 = -6 then -6 else if w = 0 then (yr B D N).1 else (yr B D N).2.1
theorem s_judge {B : gMB} {N : gMN} {D : gMD} {P : gPP} {S Sr : gWS} {T Tr : gWT} {Ur : gWU} {w : Int} {Q : Int → gWS → gWT → gWU → Prop} (hI : Inv B N) (hS : SR B S) (hT : TR B N T) (hP : PadR P D) (hw : rI w) (h : ∀ S' T' U', Q (vJudge B D N w) S' T' U') : wp_X6_judge S T Sr Tr Ur P w Q := by
  have hy := yr_r (B := B) (N := N) hP.2.1
  unfold wp_X6_judge vJudge at *
  refine s_isOutside hw (by decide) (by decide) (fun a b => ⟨fun _ => s_tryPad hI hS hT hP (fun z => ⟨by decide, fun q => absurd q (by decide), fun _ => ?_⟩) (fun z S' T' U' hS' hT' _ => ?_), fun q => absurd rfl q⟩) (fun a => ⟨fun q => absurd q (by decide), fun _ => ?_⟩)
  · rw [if_neg (fun q => q ⟨a, b⟩), if_pos z] at h; exact h _ _ _
  · rw [if_neg (fun q => q ⟨a, b⟩), if_neg (fun q => q z)] at h
    by_cases e : (yr B D N).1 = -6
    · rw [if_pos e] at h ⊢
      exact ⟨by decide, fun q => absurd q (by decide), fun _ => h _ _ _⟩
    · rw [if_neg e] at h ⊢
      refine ⟨⟨by omega, by omega⟩, fun _ => ⟨hw, fun y => ?_, fun y => ?_⟩, fun q => by omega⟩
      · rw [if_neg y] at h
        rw [Int.tmod_eq_emod_of_nonneg (by omega), show (10 * (yr B D N).1 + (yr B D N).2.1) % 10 = (yr B D N).2.1 by omega]; exact h _ _ _
      · rw [if_pos (Decidable.of_not_not y)] at h
        rw [Int.tdiv_eq_ediv_of_nonneg (by omega), show (10 * (yr B D N).1 + (yr B D N).2.1) / 10 = (yr B D N).1 by omega]; exact h _ _ _
  · rw [if_pos a] at h; exact h _ _ _
theorem s_X7_judge {B : gMB} {P : gMP} {D : gMD} {N : gMN} {L : gML} {E : gME} {w : Int} {Q : Int → gMN → gML → gME → Prop} (hI : Inv B P) (hN : Scr N L) (h0 : 0 ≤ D.1 ∧ D.1 ≤ 60) (hd : ∀ j, 0 ≤ j → j < D.1 → 33 ≤ D.2 j ∧ D.2 j ≤ 126) (hw : rI w) (h : ∀ N' L' E', Scr N' L' → Q (vJudge B D P w) N' L' E') : wp_X7_judge B P N L E D w Q := by
  have hy := yr_r (B := B) (N := P) h0
  have hfr := ff_r (n := B.1) h0
  unfold wp_X7_judge vJudge at *
  refine s_X7_in hw (by decide) (by decide) (fun a b => ⟨fun _ => s_X7_faultOf hI.1 h0 hd ⟨⟨by omega, by omega⟩, fun z => ?_, fun z => ?_⟩, fun q => absurd (by decide) q⟩) (fun a => ⟨fun q => absurd rfl q, fun _ => ?_⟩)
  · have z : ff B.1 D = -6 := by omega
    rw [if_neg (fun q => q ⟨a, b⟩), if_neg (fun q => q z)] at h
    refine s_X7_goYears hI hN.1 hN.2 h0 z (fun L' E' hz he hIn => ⟨⟨by omega, by omega⟩, fun y => ?_, fun y => ⟨hw, fun x => ?_, fun x => ?_⟩⟩)
    · have e : (yr B D P).1 = -6 := by omega
      rw [if_pos e] at h
      rw [e]; exact h _ _ _ ⟨hIn.2.1.1, hz⟩
    · rw [if_neg (by omega), if_neg x] at h
      rw [he (by omega)]; exact h _ _ _ ⟨hIn.2.1.1, hz⟩
    · rw [if_neg (by omega), if_pos (Decidable.of_not_not x)] at h
      exact h _ _ _ ⟨hIn.2.1.1, hz⟩
  · rw [if_neg (fun q => q ⟨a, b⟩), if_pos (by omega)] at h
    exact h _ _ _ hN
  · rw [if_pos a] at h; exact h _ _ _ hN
/-- 0 if the years on the pad can all be, NO else -/
def vBar (B : gMB) (D : gMD) (N : gMN) : Int := if ff B.1 D ≠ -6 then -5 else if (yr B D N).1 = -6 then 0 else -5
theorem s_X7_bar {B : gMB} {P : gMP} {D : gMD} {N : gMN} {L : gML} {E : gME} {Q : Int → gMN → gML → gME → Prop} (hI : Inv B P) (hN : Scr N L) (h0 : 0 ≤ D.1 ∧ D.1 ≤ 60) (hd : ∀ j, 0 ≤ j → j < D.1 → 33 ≤ D.2 j ∧ D.2 j ≤ 126) (h1 : vBar B D P = 0 → ∀ L' E', Z10 L' → Inv B (yr B D P).2.2 → Q 0 (yr B D P).2.2 L' E') (h2 : vBar B D P = -5 → ∀ N' L' E', Scr N' L' → Q (-5) N' L' E') : wp_X7_barOfYears B P N L E D Q := by
  have hy := yr_r (B := B) (N := P) h0
  have hfr := ff_r (n := B.1) h0
  unfold wp_X7_barOfYears vBar at *
  refine s_X7_faultOf hI.1 h0 hd ⟨⟨by omega, by omega⟩, fun z => ?_, fun z => ?_⟩
  · exact h2 (if_pos (by omega)) _ _ _ hN
  · have z : ff B.1 D = -6 := by omega
    rw [if_neg (fun q => q z)] at h1 h2
    refine s_X7_goYears hI hN.1 hN.2 h0 z (fun L' E' hz he hIn => ⟨⟨by omega, by omega⟩, fun y => ?_, fun y => ?_⟩)
    · exact h1 (if_pos (by omega)) L' E' hz hIn
    · exact h2 (if_neg (by omega)) _ _ _ ⟨hIn.2.1.1, hz⟩
theorem s_tried {B : gMB} {N : gMN} {D : gMD} {P : gPP} {S Sr : gWS} {T Tr : gWT} {Ur : gWU} {Q : Int → gWS → gWT → gWU → Prop} (hI : Inv B N) (hS : SR B S) (hT : TR B N T) (hP : PadR P D) (h1 : vBar B D N = 0 → ∀ S' T' U', SR B S' → TR B (yr B D N).2.2 T' → Inv B (yr B D N).2.2 → Q (-6) S' T' U') (h2 : vBar B D N = -5 → ∀ r S' T' U', rI r → r ≠ -6 → Q r S' T' U') : wp_X6_tryPad S T Sr Tr Ur P Q := by
  have hy := yr_r (B := B) (N := N) hP.2.1
  unfold vBar at *
  refine s_tryPad hI hS hT hP (fun z => h2 (if_pos z) _ _ _ _ (by decide) (by decide)) (fun z S' T' U' hS' hT' hI' => ?_)
  by_cases e : (yr B D N).1 = -6
  · rw [if_pos e]
    exact h1 ((if_neg (fun q => q z)).trans (if_pos e)) S' T' U' hS' hT' hI'
  · rw [if_neg e]
    exact h2 ((if_neg (fun q => q z)).trans (if_neg e)) _ S' T' U' ⟨by omega, by omega⟩ (by omega)
theorem vBar_c (B : gMB) (D : gMD) (N : gMN) : vBar B D N = 0 ∨ vBar B D N = -5 := by
  unfold vBar
  split
  · exact Or.inr rfl
  · split
    · exact Or.inl rfl
    · exact Or.inr rfl
def vDone (B : gMB) (D : gMD) (N : gMN) : Int := if vBar B D N = 0 then D.1 / 2 else -5
theorem s_done {B : gMB} {N : gMN} {D : gMD} {P : gPP} {S Sr : gWS} {T Tr : gWT} {Ur : gWU} {Q : Int → gWS → gWT → gWS → gWT → gWU → gPP → Prop} (hI : Inv B N) (hS : SR B S) (hT : TR B N T) (hP : PadR P D) (h1 : vBar B D N = 0 → ∀ S' T' S2 T2 U2, SR B S' → TR B (yr B D N).2.2 T' → Q (vDone B D N) S' T' S2 T2 U2 (0, P.2)) (h2 : vBar B D N ≠ 0 → ∀ S2 T2 U2, Q (vDone B D N) S T S2 T2 U2 P) : wp_X6_done S T Sr Tr Ur P Q := by
  have hd := hP.2.1
  unfold wp_X6_done vDone at *
  refine s_tried hI hS hT hP (fun z S' T' U' hS' hT' _ => ⟨by decide, fun _ => ?_, fun q => absurd rfl q⟩) (fun z r S' T' U' hr hr6 => ⟨hr, fun q => absurd q hr6, fun _ => ?_⟩)
  · unfold wp_X2_acts
    rw [hP.1]
    refine ⟨⟨by omega, by omega⟩, s_become hS' hT' (fun S2 T2 hS2 hT2 => ?_)⟩
    have := h1 z S2 T2 S' T' U' hS2 hT2
    rw [if_pos z] at this
    rw [Int.tdiv_eq_ediv_of_nonneg hd.1]; exact this
  · have := h2 (by omega) S' T' U'
    rw [if_neg (by omega)] at this
    exact this
theorem s_X7_done {B : gMB} {P : gMP} {D : gMD} {N : gMN} {L : gML} {E : gME} {Q : Int → gMP → gMN → gML → gME → gMD → Prop} (hI : Inv B P) (hN : Scr N L) (h0 : 0 ≤ D.1 ∧ D.1 ≤ 60) (hd : ∀ j, 0 ≤ j → j < D.1 → 33 ≤ D.2 j ∧ D.2 j ≤ 126) (h1 : vBar B D P = 0 → ∀ N' L' E', Scr N' L' → Inv B (yr B D P).2.2 → Q (vDone B D P) (yr B D P).2.2 N' L' E' (0, D.2)) (h2 : vBar B D P ≠ 0 → ∀ N' L' E', Scr N' L' → Q (vDone B D P) P N' L' E' D) : wp_X7_done B P N L E D Q := by
  unfold wp_X7_done vDone at *
  refine s_X7_bar hI hN h0 hd (fun z L' E' hz hIn => ⟨by decide, fun _ => ?_, fun q => absurd (by decide) q⟩) (fun z N' L' E' hs => ⟨by decide, fun q => absurd q (by decide), fun _ => ?_⟩)
  · have hh := fun N' L' E' hs => h1 z N' L' E' hs hIn
    rw [if_pos z] at hh
    have hr := hIn.2.1
    refine lp_inv (fun m i (s : gMP) => wp_X7_done_12 _ Q m i s (yr B D P).2.2 L' E' D) 10 (fun i s => 0 ≤ i ∧ (Z10 s.1 ∧ Z10 s.2) ∧ ∀ g, 0 ≤ g → g < i → s.1 g = (yr B D P).2.2.1 g ∧ s.2 g = (yr B D P).2.2.2 g) ?_ ?_ 0 P (by omega) ⟨by omega, hI.2.1.1, fun g _ _ => by omega⟩
    · rintro m s ⟨hi, hz2, he⟩
      show wp_X7_done_12 _ _ (m + 1) _ _ _ _ _ _
      unfold wp_X7_done_12
      have e : s = (yr B D P).2.2 := Prod.ext (Z10_ext hz2.1 hr.1.1 (fun g a b => (he g a b).1)) (Z10_ext hz2.2 hr.1.2 (fun g a b => (he g a b).2))
      subst e
      refine ⟨by decide, fun _ => ⟨⟨by omega, by omega⟩, ?_⟩, fun q => absurd (Int.le_refl 10) q⟩
      rw [Int.tdiv_eq_ediv_of_nonneg h0.1]; exact hh _ _ _ ⟨hr.1, hz⟩
    · rintro m i s hlt ⟨hi, hz2, he⟩ ih
      show wp_X7_done_12 _ _ (m + 1) _ _ _ _ _ _
      unfold wp_X7_done_12
      refine ⟨⟨by omega, by omega⟩, fun q => by omega, fun _ => ⟨⟨hi, hlt⟩, ih _ ⟨by omega, ⟨Z10_set hz2.1 ⟨hi, hlt⟩, Z10_set hz2.2 ⟨hi, hlt⟩⟩, fun g g0 g1 => ?_⟩⟩⟩
      by_cases e : g = i
      · subst e; exact ⟨aset_s, aset_s⟩
      · exact ⟨(aset_n e).trans (he g g0 (by omega)).1, (aset_n e).trans (he g g0 (by omega)).2⟩
  · have := h2 (by omega) N' L' E' hs
    rw [if_neg (by omega)] at this
    exact this
def vPl (N : gMN) (g w : Int) : Int := if ¬ (0 ≤ g ∧ g ≤ 9) then -1 else if w = 0 then N.1 g else if w = 1 then N.2 g else -2
theorem s_placeOf {B : gMB} {N : gMN} {T : gWT} {g w : Int} {Q : Int → Prop} (hN : NOk B N) (hT : TR B N T) (g0 : 0 ≤ g) (g1 : g < 10) (hw : 0 ≤ w ∧ w ≤ 1) (h : Q (if w = 0 then N.1 g else N.2 g)) : wp_X5_placeOf T g w Q := by
  unfold wp_X5_placeOf
  refine s_isLaid hT g0 g1 (fun a => ⟨fun _ => ⟨⟨by omega, by omega⟩, fun z => s_at ⟨g0, g1⟩ (by omega) ?_, fun z => s_at ⟨g0, g1⟩ (by omega) ?_⟩, fun q => absurd (by decide) q⟩) (fun a => ⟨fun q => absurd rfl q, fun _ => ?_⟩)
  · rw [if_neg z] at h; rw [(hT.2.1 g g0 g1 a).2]; exact h
  · rw [if_pos (Decidable.of_not_not z)] at h; rw [(hT.2.1 g g0 g1 a).1]; exact h
  · obtain ⟨e1, e2⟩ := hN.out g0 g1 a
    rw [e1, e2] at h
    rw [show (if w = 0 then (-6 : Int) else -6) = -6 by split <;> rfl] at h
    exact h
theorem s_state {B : gMB} {N : gMN} {T : gWT} {g w : Int} {Q : Int → Prop} (hN : NOk B N) (hT : TR B N T) (r1 : rI g) (r2 : rI w) (h : Q (vPl N g w)) : wp_X6_state T g w Q := by
  unfold wp_X6_state vPl at *
  refine s_isNoGuest r1 (fun a b => ⟨fun _ => ?_, fun q => absurd rfl q⟩) (fun a => ⟨fun q => absurd q (by decide), fun _ => ?_⟩)
  · rw [if_neg (fun q => q ⟨a, b⟩)] at h
    refine s_isOutside r2 (by decide) (by decide) (fun c d => ⟨fun _ => s_placeOf hN hT a (by omega) ⟨c, d⟩ ?_, fun q => absurd rfl q⟩) (fun c => ⟨fun q => absurd q (by decide), fun _ => ?_⟩)
    · by_cases e : w = 0
      · rw [if_pos e] at h ⊢; exact h
      · rw [if_neg e, if_pos (by omega)] at h; rw [if_neg e]; exact h
    · rw [if_neg (by omega), if_neg (by omega)] at h; exact h
  · rw [if_pos a] at h; exact h
theorem s_X7_state {P : gMP} {g w : Int} {Q : Int → Prop} (r1 : rI g) (r2 : rI w) (h : Q (vPl P g w)) : wp_X7_state P g w Q := by
  unfold wp_X7_state vPl at *
  refine s_X7_in r1 (by decide) (by decide) (fun a b => ⟨fun _ => ⟨r2, fun c => ⟨fun d => ?_, fun d => ⟨⟨a, by omega⟩, ?_⟩⟩, fun c => ⟨⟨a, by omega⟩, ?_⟩⟩, fun q => absurd (by decide) q⟩) (fun a => ⟨fun q => absurd rfl q, fun _ => ?_⟩)
  · rw [if_neg (fun q => q ⟨a, b⟩), if_neg c, if_neg d] at h; exact h
  · rw [if_neg (fun q => q ⟨a, b⟩), if_neg c, if_pos (Decidable.of_not_not d)] at h; exact h
  · rw [if_neg (fun q => q ⟨a, b⟩), if_pos (Decidable.of_not_not c)] at h; exact h
  · rw [if_pos a] at h; exact h
def vBehind (B : gMB) (D : gMD) (N : gMN) (g w : Int) : Int := if ¬ (0 ≤ g ∧ g ≤ 9) then -1 else if ¬ (0 ≤ w ∧ w ≤ 1) then -2 else if vBar B D N = 0 then (if w = 0 then (yr B D N).2.2.1 g else (yr B D N).2.2.2 g) else -5
theorem s_behind {B : gMB} {N : gMN} {D : gMD} {P : gPP} {S Sr : gWS} {T Tr : gWT} {Ur : gWU} {g w : Int} {Q : Int → gWS → gWT → gWU → Prop} (hI : Inv B N) (hS : SR B S) (hT : TR B N T) (hP : PadR P D) (r1 : rI g) (r2 : rI w) (h : ∀ S' T' U', Q (vBehind B D N g w) S' T' U') : wp_X6_behind S T Sr Tr Ur P g w Q := by
  unfold wp_X6_behind vBehind at *
  refine s_isNoGuest r1 (fun a b => ⟨fun _ => ?_, fun q => absurd rfl q⟩) (fun a => ⟨fun q => absurd q (by decide), fun _ => ?_⟩)
  · rw [if_neg (fun q => q ⟨a, b⟩)] at h
    refine s_isOutside r2 (by decide) (by decide) (fun c d => ⟨fun _ => ?_, fun q => absurd rfl q⟩) (fun c => ⟨fun q => absurd q (by decide), fun _ => ?_⟩)
    · rw [if_neg (fun q => q ⟨c, d⟩)] at h
      refine s_tried hI hS hT hP (fun z S' T' U' hS' hT' hI' => ⟨by decide, fun _ => ?_, fun q => absurd rfl q⟩) (fun z r S' T' U' hr hr6 => ⟨hr, fun q => absurd q hr6, fun _ => ?_⟩)
      · rw [if_pos z] at h
        exact s_placeOf hI'.2.1 hT' a (by omega) ⟨c, d⟩ (h _ _ _)
      · rw [if_neg (by omega)] at h; exact h _ _ _
    · rw [if_pos c] at h; exact h _ _ _
  · rw [if_pos a] at h; exact h _ _ _
theorem s_X7_behind {B : gMB} {P : gMP} {D : gMD} {N : gMN} {L : gML} {E : gME} {g w : Int} {Q : Int → gMN → gML → gME → Prop} (hI : Inv B P) (hN : Scr N L) (h0 : 0 ≤ D.1 ∧ D.1 ≤ 60) (hd : ∀ j, 0 ≤ j → j < D.1 → 33 ≤ D.2 j ∧ D.2 j ≤ 126) (r1 : rI g) (r2 : rI w) (h : ∀ N' L' E', Scr N' L' → Q (vBehind B D P g w) N' L' E') : wp_X7_behind B P N L E D g w Q := by
  unfold wp_X7_behind vBehind at *
  refine s_X7_in r1 (by decide) (by decide) (fun a b => ⟨fun _ => ?_, fun q => absurd (by decide) q⟩) (fun a => ⟨fun q => absurd rfl q, fun _ => ?_⟩)
  · rw [if_neg (fun q => q ⟨a, b⟩)] at h
    refine s_X7_in r2 (by decide) (by decide) (fun c d => ⟨fun _ => ?_, fun q => absurd (by decide) q⟩) (fun c => ⟨fun q => absurd rfl q, fun _ => ?_⟩)
    · rw [if_neg (fun q => q ⟨c, d⟩)] at h
      refine s_X7_bar hI hN h0 hd (fun z L' E' hz hIn => ⟨by decide, fun _ => ⟨r2, fun y => ⟨⟨a, by omega⟩, ?_⟩, fun y => ⟨⟨a, by omega⟩, ?_⟩⟩, fun q => absurd (by decide) q⟩) (fun z N' L' E' hs => ⟨by decide, fun q => absurd q (by decide), fun _ => ?_⟩)
      · rw [if_pos z, if_neg y] at h; exact h _ _ _ ⟨hIn.2.1.1, hz⟩
      · rw [if_pos z, if_pos (Decidable.of_not_not y)] at h; exact h _ _ _ ⟨hIn.2.1.1, hz⟩
      · rw [if_neg (by omega)] at h; exact h _ _ _ hs
    · rw [if_pos c] at h; exact h _ _ _ hN
  · rw [if_pos a] at h; exact h _ _ _ hN
def vHeight (B : gMB) (D : gMD) (N : gMN) (c : Int) : Int := if ¬ (0 ≤ c ∧ c ≤ B.1 - 1) then -1 else if vBar B D N = 0 then hgt B (yr B D N).2.2 c else -5
theorem s_height {B : gMB} {N : gMN} {D : gMD} {P : gPP} {S Sr : gWS} {T Tr : gWT} {Ur : gWU} {c : Int} {Q : Int → gWS → gWT → gWU → Prop} (hI : Inv B N) (hS : SR B S) (hT : TR B N T) (hP : PadR P D) (r1 : rI c) (h : ∀ S' T' U', Q (vHeight B D N c) S' T' U') : wp_X6_height S T Sr Tr Ur P c Q := by
  have hn := hI.1.1
  unfold wp_X6_height vHeight at *
  refine s_isNoColumn hI.1 hS r1 (fun a b => ⟨fun _ => ?_, fun q => absurd rfl q⟩) (fun a => ⟨fun q => absurd q (by decide), fun _ => ?_⟩)
  · rw [if_neg (fun q => q ⟨a, b⟩)] at h
    refine s_tried hI hS hT hP (fun z S' T' U' hS' hT' hI' => ⟨by decide, fun _ => s_at ⟨a, by omega⟩ (by omega) ?_, fun q => absurd rfl q⟩) (fun z r S' T' U' hr hr6 => ⟨hr, fun q => absurd q hr6, fun _ => ?_⟩)
    · rw [if_pos z] at h
      rw [hT'.2.2.2 c a (by omega)]; exact h _ _ _
    · rw [if_neg (by omega)] at h; exact h _ _ _
  · rw [if_pos a] at h; exact h _ _ _
theorem s_X7_height {B : gMB} {P : gMP} {D : gMD} {N : gMN} {L : gML} {E : gME} {c : Int} {Q : Int → gMN → gML → gME → Prop} (hI : Inv B P) (hN : Scr N L) (h0 : 0 ≤ D.1 ∧ D.1 ≤ 60) (hd : ∀ j, 0 ≤ j → j < D.1 → 33 ≤ D.2 j ∧ D.2 j ≤ 126) (r1 : rI c) (h : ∀ N' L' E', Scr N' L' → Q (vHeight B D P c) N' L' E') : wp_X7_height B P N L E D c Q := by
  have hn := hI.1.1
  unfold wp_X7_height vHeight at *
  refine s_X7_in r1 (by decide) ⟨by omega, by omega⟩ (fun a b => ⟨fun _ => ?_, fun q => absurd (by decide) q⟩) (fun a => ⟨fun q => absurd rfl q, fun _ => ?_⟩)
  · rw [if_neg (fun q => q ⟨a, b⟩)] at h
    refine s_X7_bar hI hN h0 hd (fun z L' E' hz hIn => ⟨by decide, fun _ => s_X7_heightOf (hIn.2.1.nr hI.1) r1 ?_, fun q => absurd (by decide) q⟩) (fun z N' L' E' hs => ⟨by decide, fun q => absurd q (by decide), fun _ => ?_⟩)
    · rw [if_pos z] at h; exact h _ _ _ ⟨hIn.2.1.1, hz⟩
    · rw [if_neg (by omega)] at h; exact h _ _ _ hs
  · rw [if_pos a] at h; exact h _ _ _ hN
