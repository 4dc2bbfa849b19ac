/-! years: tried, told, done -/
theorem acpy_in {f g : Int → Int} {n j : Int} (h0 : 0 ≤ j) (h1 : j < n) : acpy f g n j = f j := if_pos ⟨h0, h1⟩
theorem s_copy {n : Int} {f g : Int → Int} {Q : (Int → Int) → Prop} (hn : 0 ≤ n) (h : Q (acpy f g n)) : wp_X6_copy n n f g Q := by
  unfold wp_X6_copy
  rw [Int.min_self]
  exact ⟨⟨hn, Int.le_refl _, Int.le_refl _⟩, h⟩
theorem s_become {B : gMB} {N : gMN} {S Sa : gWS} {T Ta : gWT} {Q : gWS → gWT → Prop} (hS : SR B Sa) (hT : TR B N Ta) (h : ∀ S' T', SR B S' → TR B N T' → Q S' T') : wp_X5_become S T Sa Ta Q := by
  unfold wp_X5_become
  refine s_copy (by omega) (s_copy (by omega) (s_copy (by omega) (s_copy (by omega) (s_copy (by omega) (s_copy (by omega) (s_copy (by omega) (h _ _ ⟨hS.1, hS.2.1, fun g g0 g1 => ?_⟩ ⟨hT.1, fun g g0 g1 a => ?_, fun r c r0 r1 c0 c1 => ?_, fun c c0 c1 => ?_⟩)))))))
  · have := hS.2.2 g g0 g1
    dsimp only
    rw [acpy_in g0 g1, acpy_in g0 g1, acpy_in g0 g1]; exact this
  · have := hT.2.1 g g0 g1 a
    dsimp only
    rw [acpy_in g0 g1, acpy_in g0 g1]; exact this
  · have := hT.2.2.1 r c r0 r1 c0 c1
    dsimp only
    rw [acpy_in (by omega) (by omega)]; exact this
  · have := hT.2.2.2 c c0 c1
    dsimp only
    rw [acpy_in c0 c1]; exact this
theorem even_tdiv (k : Int) (h : 0 ≤ k) : (2 * k).tdiv 2 = k := by rw [Int.tdiv_eq_ediv_of_nonneg (by omega)]; omega
theorem s_X7_goYears {B : gMB} {D : gMD} {P : gMP} {N : gMN} {L : gML} {E : gME} {Q : Int → gMN → gML → gME → Prop} (hI : Inv B P) (hN : Z10 N.1 ∧ Z10 N.2) (hL : Z10 L) (h0 : 0 ≤ D.1 ∧ D.1 ≤ 60) (hf : ff B.1 D = -6) (h : ∀ L' E', Z10 L' → (0 ≤ (yr B D P).1 → E' = (yr B D P).2.1) → Inv B (yr B D P).2.2 → Q (yr B D P).1 (yr B D P).2.2 L' E') : wp_X7_goYears B P N L E D Q := by
  obtain ⟨hB, hP, hD, hSp, hO⟩ := id hI
  obtain ⟨ev, hs⟩ := ff_none h0.1 hf
  have hn := hB.1
  unfold wp_X7_goYears
  refine s_X7_asNow hP.1 hN ?_
  refine lp_inv (fun m i (s : gMN × gML × gME) => wp_X7_goYears_6 B D _ _ Q m (2 * i) s.1 s.2.1 s.2.2) (D.1 / 2) (fun i s => 0 ≤ i ∧ Z10 s.2.1 ∧ Inv B s.1 ∧ ∃ w, itI (yrF B D) 0 i (-6, 0, P) = (-6, w, s.1)) ?_ ?_ 0 (P, L, E) (by omega) ⟨by omega, hL, hI, 0, itI_0 (by omega)⟩
  · rintro m ⟨N', L', E'⟩ ⟨hi, hz, hIn, w, e⟩
    show wp_X7_goYears_6 _ _ _ _ _ (m + 1) _ _ _ _
    unfold wp_X7_goYears_6
    have ey : yr B D P = (-6, w, N') := e
    rw [ey] at h
    refine ⟨⟨by omega, by omega⟩, ⟨by omega, by omega⟩, fun _ => ?_, fun q => by omega⟩
    exact h L' E' hz (fun q => by simp at q) hIn
  · rintro m i ⟨N', L', E'⟩ hlt ⟨hi, hz, hIn, w, e⟩ ih
    dsimp only at hz hIn e
    have s0 := hs (2 * i) (by omega) (by omega)
    have s1 := hs (2 * i + 1) (by omega) (by omega)
    have a0 := s0.1 (by omega)
    have a1 := s1.2 (by omega)
    have hai := act_inv hIn s0 s1
    have har := act_r B D i N'
    have fin : ∀ N2 L2 E2, Z10 L2 → N2 = (act B D i N').2 → E2 = (act B D i N').1 → wp_X7_goYears_81 (fun x1 N L E => wp_X7_goYears_6 B D (fun x1 N L E => rI x1 ∧ Q (x1.tdiv 2) N L E) (fun N L E => Q (-6) N L E) Q m x1 N L E) (fun x1 N L E => rI x1 ∧ Q (x1.tdiv 2) N L E) Q (2 * i) N2 L2 E2 := by
      rintro N2 L2 E2 hz2 rfl rfl
      unfold wp_X7_goYears_81
      refine ⟨⟨by omega, by omega⟩, fun z => ?_, fun z => ?_⟩
      · have z : (act B D i N').1 ≤ (0 : Int) := z
        have := ih ((act B D i N').2, L2, (act B D i N').1) ⟨by omega, hz2, hai, 0, yr_next hi e (by omega)⟩
        rw [show 2 * (i + 1) = 2 * i + 2 by omega] at this
        exact this
      · have z : ¬ (act B D i N').1 ≤ (0 : Int) := z
        have ey := yr_stop hi hlt e (by omega)
        rw [ey] at h
        rw [act_n (by omega)]
        show rI (2 * i) ∧ Q ((2 * i).tdiv 2) N' L2 _
        rw [even_tdiv i hi]
        exact ⟨⟨by omega, by omega⟩, h L2 _ hz2 (fun _ => rfl) hIn⟩
    show wp_X7_goYears_6 B D _ _ Q (m + 1) (2 * i) N' L' E'
    unfold wp_X7_goYears_6
    refine ⟨⟨by omega, by omega⟩, ⟨by omega, by omega⟩, fun q => by omega, fun _ => ⟨⟨by omega, by omega⟩, ⟨by omega, by omega⟩, ⟨by omega, by omega⟩, fun z => ?_, fun z => ?_⟩⟩
    · have ea : act B D i N' = mput B N' (D.2 (2 * i) - 65) (D.2 (2 * i + 1) - 48) := if_neg z
      refine s_X7_put hIn hz (by omega) (by omega) ⟨by omega, by omega⟩ (fun L2 hz2 => fin _ _ _ hz2 ?_ ?_)
      · rw [ea]
      · rw [ea]
    · have z := Decidable.of_not_not z
      have ea : act B D i N' = mtake B N' (D.2 (2 * i) - 65) := if_pos z
      have hr := mtake_r B N' (D.2 (2 * i) - 65)
      refine s_X7_whyNotTake hB (hIn.2.1.nr hB) (by omega) (by omega) ⟨⟨by omega, by omega⟩, fun y => ?_, fun y => ?_⟩
      · exact fin _ _ _ hz (by rw [ea, mtake_n y]) (by rw [ea])
      · refine s_X7_take ⟨by omega, by omega⟩ (fin _ _ _ hz ?_ (by rw [ea]))
        rw [ea, mtake_0 (Decidable.of_not_not y)]; rfl
/-- all ACTS tried on the trial wall -/
theorem s_tryPad {B : gMB} {N : gMN} {D : gMD} {P : gPP} {S Sr : gWS} {T Tr : gWT} {Ur : gWU} {Q : Int → gWS → gWT → gWU → Prop} (hI : Inv B N) (hS : SR B S) (hT : TR B N T) (hP : PadR P D) (h1 : ff B.1 D ≠ -6 → Q (-5) Sr Tr Ur) (h2 : ff B.1 D = -6 → ∀ S' T' U', SR B S' → TR B (yr B D N).2.2 T' → Inv B (yr B D N).2.2 → Q (if (yr B D N).1 = -6 then -6 else 10 * (yr B D N).1 + (yr B D N).2.1) S' T' U') : wp_X6_tryPad S T Sr Tr Ur P Q := by
  obtain ⟨hB, hN, hD, hSp, hO⟩ := id hI
  have hn := hB.1
  have hfr := ff_r (n := B.1) hP.2.1
  have hd0 := hP.2.1
  unfold wp_X6_tryPad
  refine s_firstFault hP (by rw [hS.1]; omega) ?_
  rw [hS.1]
  refine ⟨⟨by omega, by omega⟩, fun hf => ?_, fun hf => h1 hf⟩
  replace h2 := h2 hf
  obtain ⟨ev, hs⟩ := ff_none hP.2.1.1 hf
  refine s_become hS hT (fun S2 T2 hS2 hT2 => ?_)
  unfold wp_X2_acts
  rw [hP.1]
  refine ⟨⟨by omega, by omega⟩, ?_⟩
  rw [Int.tdiv_eq_ediv_of_nonneg hP.2.1.1]
  refine lp_inv (fun m i (s : gWT × gWU) => wp_X6_tryPad_43 P _ _ Q m (D.1 / 2) i S2 s.1 s.2) (D.1 / 2) (fun i s => 0 ≤ i ∧ ∃ M w, Inv B M ∧ TR B M s.1 ∧ itI (yrF B D) 0 i (-6, 0, N) = (-6, w, M)) ?_ ?_ 0 (T2, Ur) (by omega) ⟨by omega, N, 0, hI, hT2, itI_0 (by omega)⟩
  · rintro m ⟨T', U'⟩ ⟨hi, M, w, hIn, hT', e⟩
    show wp_X6_tryPad_43 _ _ _ _ (m + 1) _ _ _ _ _
    unfold wp_X6_tryPad_43
    have ey : yr B D N = (-6, w, M) := e
    rw [ey, if_pos rfl] at h2
    exact ⟨⟨by omega, by omega⟩, ⟨by omega, by omega⟩, fun _ => h2 S2 T' U' hS2 hT' hIn, fun q => absurd (Int.le_refl _) q⟩
  · rintro m i ⟨T', U'⟩ hlt ⟨hi, M, w, hIn, hT', e⟩ ih
    dsimp only at hT'
    have s0 := hs (2 * i) (by omega) (by omega)
    have s1 := hs (2 * i + 1) (by omega) (by omega)
    have a0 := s0.1 (by omega)
    have a1 := s1.2 (by omega)
    have p0 := (hP.2.2 (2 * i) (by omega) (by omega)).1
    have p1 := (hP.2.2 (2 * i + 1) (by omega) (by omega)).1
    have hai := act_inv hIn s0 s1
    have har := act_r B D i M
    have fin : ∀ r T3 U3, r = (act B D i M).1 → TR B (act B D i M).2 T3 → wp_X6_tryPad_94 (fun x1 x2 S_r T_r U_r => wp_X6_tryPad_43 P (fun x2 x5 S_r T_r U_r => Q (10 * x2 + x5) S_r T_r U_r) (fun S_r T_r U_r => Q (-6) S_r T_r U_r) Q m x1 x2 S_r T_r U_r) (fun x2 x5 S_r T_r U_r => Q (10 * x2 + x5) S_r T_r U_r) Q (D.1 / 2) i r S2 T3 U3 := by
      rintro r T3 U3 rfl hT3
      unfold wp_X6_tryPad_94
      refine ⟨⟨by omega, by omega⟩, fun z => ?_, fun z => ?_⟩
      · exact ih (T3, U3) ⟨by omega, _, 0, hai, hT3, yr_next hi e z⟩
      · have ey := yr_stop hi hlt e z
        rw [act_n z] at hT3
        rw [ey, if_neg (by dsimp only; omega)] at h2
        exact h2 S2 T3 U3 hS2 hT3 hIn
    show wp_X6_tryPad_43 P _ _ Q (m + 1) (D.1 / 2) i S2 T' U'
    unfold wp_X6_tryPad_43 wp_X2_guestOf wp_X2_columnOf
    refine ⟨⟨by omega, by omega⟩, ⟨by omega, by omega⟩, fun q => by omega, fun _ => s_at ⟨by omega, by omega⟩ (by omega) (s_at ⟨by omega, by omega⟩ (by omega) ?_)⟩
    rw [p0, p1]
    refine ⟨⟨by omega, by omega⟩, fun z => ⟨⟨by omega, by omega⟩, fun _ => ?_, fun q => by omega⟩, fun z => ⟨⟨by omega, by omega⟩, fun q => absurd rfl q, fun _ => ?_⟩⟩
    · have ea : act B D i M = mput B M (D.2 (2 * i) - 65) (D.2 (2 * i + 1) - 48) := if_neg z
      refine s_put hIn hS2 hT' (by omega) (by omega) ⟨by omega, by omega⟩ (fun T3 U3 hT3 => fin _ _ _ (by rw [ea]) (by rw [ea]; exact hT3))
    · have ea : act B D i M = mtake B M (D.2 (2 * i) - 65) := if_pos (Decidable.of_not_not z)
      refine s_take hIn hS2 hT' (by omega) (by omega) (fun T3 hT3 => fin _ _ _ (by rw [ea]) (by rw [ea]; exact hT3))
