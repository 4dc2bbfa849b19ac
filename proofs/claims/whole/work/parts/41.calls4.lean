/-! where, gate, year -/
/-- the class's fraction and the reference's are one -/
def FR (u l : Int) (V : Int × Int) : Prop := (0 ≤ u ∧ 6 * u ≤ 12093235200) ∧ (1 ≤ l ∧ l ≤ 200) ∧ VR V ∧ ((V.1 = 6 * u ∧ V.2 = l) ∨ (u = 0 ∧ V = (0, 1)))
theorem FR_lt {u l u' l' : Int} {V V' : Int × Int} (h : FR u l V) (h' : FR u' l' V') : u * l' < u' * l ↔ V.1 * V'.2 < V'.1 * V.2 := by
  obtain ⟨⟨a1, a2⟩, ⟨a3, a4⟩, ⟨a5, a6, a7, a8⟩, a9⟩ := h
  obtain ⟨⟨b1, b2⟩, ⟨b3, b4⟩, ⟨b5, b6, b7, b8⟩, b9⟩ := h'
  rcases a9 with ⟨e1, e2⟩ | ⟨e1, e2⟩
  · rcases b9 with ⟨f1, f2⟩ | ⟨f1, f2⟩
    · rw [e1, e2, f1, f2, Int.mul_assoc, Int.mul_assoc]; omega
    · rw [f2, e1, e2, f1, Int.zero_mul]
      dsimp only
      have := Int.mul_nonneg a1 (show 0 ≤ l' by omega)
      omega
  · rcases b9 with ⟨f1, f2⟩ | ⟨f1, f2⟩
    · rw [e2, f1, f2, e1, Int.zero_mul]
      dsimp only
      constructor
      · intro q
        have : u' ≠ 0 := fun z => by rw [z, Int.zero_mul] at q; omega
        omega
      · intro q
        exact Int.mul_pos (by omega) (by omega)
    · rw [e2, f2, e1, f1]; dsimp only; omega
theorem FR_of {B : gMB} {N : gMN} {k u l : Int} (hI : Inv B N) (hk : MS B N k (stv B N)) (u0 : k = -6 → u = 0) (u1 : k ≠ -6 → 6 * u = ldA B N k) (l0 : k = -6 → l = 1) (l1 : k ≠ -6 → l = B.2.2.2.2 k) : FR u l (stv B N) := by
  have hv := stv_r hI
  rcases hk with ⟨z, e⟩ | ⟨⟨k0, k1, k2, k3⟩, e⟩
  · rw [u0 z, l0 z]
    exact ⟨⟨by omega, by omega⟩, ⟨by omega, by omega⟩, hv, Or.inr ⟨rfl, e⟩⟩
  · have e6 := u1 (by omega)
    have el := l1 (by omega)
    have hl := ld_inv hI k0 k1 k2
    have hb := (hI.1.2.2 k k0 k1).2.2.1
    refine ⟨⟨by omega, by omega⟩, ⟨by omega, by omega⟩, hv, ?_⟩
    rcases e with e | ⟨e, lz⟩
    · rw [e]; exact Or.inl ⟨e6.symm, el.symm⟩
    · exact Or.inr ⟨by omega, e⟩
def whF (B : gMB) (N : gMN) (g : Int) : Int → (Int × Int × Int) → (Int × Int × Int) := fun c s => if (mput B N g c).1 = 0 ∧ (s.1 < 0 ∨ (stv B (mput B N g c).2).1 * s.2.2 < s.2.1 * (stv B (mput B N g c).2).2) then (c, (stv B (mput B N g c).2).1, (stv B (mput B N g c).2).2) else s
def vWhere (B : gMB) (N : gMN) (g : Int) : Int := if ¬ (0 ≤ g ∧ g ≤ 9) then -1 else if sb B.2.1 g = false ∨ 0 ≤ N.1 g then -3 else (itI (whF B N g) 0 B.1 (-6, 0, 1)).1
theorem wh_r {B : gMB} {N : gMN} {g : Int} (hI : Inv B N) (g0 : 0 ≤ g) (g1 : g < 10) (i : Int) (h0 : 0 ≤ i) : ((itI (whF B N g) 0 i (-6, 0, 1)).1 = -6 ∨ (0 ≤ (itI (whF B N g) 0 i (-6, 0, 1)).1 ∧ (itI (whF B N g) 0 i (-6, 0, 1)).1 < i)) ∧ VR (itI (whF B N g) 0 i (-6, 0, 1)).2 := by
  refine itI_ind (P := fun (k : Int) (s : Int × Int × Int) => (s.1 = -6 ∨ (0 ≤ s.1 ∧ s.1 < k)) ∧ VR s.2) h0 ⟨Or.inl rfl, by simp, by simp, by simp, by simp⟩ (fun k s k0 k1 hs => ?_)
  unfold whF
  split
  · exact ⟨Or.inr ⟨k0, by dsimp only; omega⟩, stv_r (inv_put hI g0 g1 k0)⟩
  · exact ⟨by omega, hs.2⟩
/-- behind a lift the wall is as it was -/
theorem s_unput {B : gMB} {N : gMN} {S : gWS} {T : gWT} {g c : Int} {Q : gWT → Prop} (hI : Inv B N) (hS : SR B S) (g0 : 0 ≤ g) (g1 : g < 10) (hc : 0 ≤ c) (hp : (mput B N g c).1 = 0) (hT : TR B (mput B N g c).2 T) (h : ∀ T', TR B N T' → Q T') : wp_X5_lift S T g Q := by
  obtain ⟨a, b, d, e⟩ := mput_0 hp
  have hI2 := inv_put (c := c) hI g0 g1 hc
  have p0 := (put_fits hI.1 hI.2.1 hI.2.2.1 hI.2.2.2.1 g0 g1 b a hc d).1
  rw [e] at hT hI2
  refine s_lift hI.1 hS hT hI2.2.1 hI2.2.2.1 g0 g1 (by rw [mset_s1]; exact p0) (fun T' hT' => ?_)
  rw [mset_back (hI.2.1.out g0 g1 b)] at hT'
  exact h T' hT'
theorem s_where {B : gMB} {N : gMN} {S Sr : gWS} {T Tr : gWT} {Ur : gWU} {g : Int} {Q : Int → gWS → gWT → gWU → Prop} (hI : Inv B N) (hS : SR B S) (hT : TR B N T) (rg : rI g) (h : ∀ S' T' U', Q (vWhere B N g) S' T' U') : wp_X6_where S T Sr Tr Ur g Q := by
  obtain ⟨hB, hN, hD, hSp, hO⟩ := id hI
  have hn := hB.1
  unfold wp_X6_where vWhere at *
  refine s_isNoGuest rg (fun a b => ⟨fun _ => ?_, fun q => absurd rfl q⟩) (fun a => ⟨fun q => absurd q (by decide), fun _ => ?_⟩)
  · rw [if_neg (fun q => q ⟨a, b⟩)] at h
    refine s_isFree hB hS hT a (by omega) (fun f1 f2 => ⟨fun _ => ?_, fun q => absurd (by decide) q⟩) (fun f => ⟨fun q => absurd rfl q, fun _ => ?_⟩)
    · rw [if_neg (fun q => by rcases q with q | q; rw [f1] at q; exact absurd q (by decide); omega)] at h
      refine s_become hS hT (fun S2 T2 hS2 hT2 => ?_)
      rw [hS2.1]
      refine lp_inv (fun m c (s : Int × Int × Int × gWT × gWU) => wp_X6_where_54 _ Q m g s.1 s.2.1 s.2.2.1 B.1 c S2 s.2.2.2.1 s.2.2.2.2) B.1 (fun c s => 0 ≤ c ∧ TR B N s.2.2.2.1 ∧ s.1 = (itI (whF B N g) 0 c (-6, 0, 1)).1 ∧ FR s.2.1 s.2.2.1 (itI (whF B N g) 0 c (-6, 0, 1)).2) ?_ ?_ 0 (-6, 0, 1, T2, Ur) (by omega) ⟨by omega, hT2, by rw [itI_0 (by omega)], by rw [itI_0 (by omega)]; exact ⟨⟨by simp, by simp⟩, ⟨by simp, by simp⟩, ⟨by simp, by simp, by simp, by simp⟩, Or.inr ⟨rfl, rfl⟩⟩⟩
      · rintro m ⟨k, u, l, T3, U3⟩ ⟨hc, hT3, e1, e2⟩
        show wp_X6_where_54 _ Q (m + 1) g k u l B.1 B.1 S2 T3 U3
        unfold wp_X6_where_54
        dsimp only at e1
        rw [← e1] at h
        exact ⟨⟨by omega, by omega⟩, ⟨by omega, by omega⟩, fun _ => h _ _ _, fun q => absurd (Int.le_refl _) q⟩
      · rintro m c ⟨k, u, l, T3, U3⟩ hlt ⟨hc, hT3, e1, e2⟩ ih
        dsimp only at e1 e2 hT3
        have hr := wh_r hI a (show g < 10 by omega) c hc
        have hpr := mput_r B N g c
        have kr : rI k := ⟨by omega, by omega⟩
        show wp_X6_where_54 _ Q (m + 1) g k u l B.1 c S2 T3 U3
        unfold wp_X6_where_54
        refine ⟨⟨by omega, by omega⟩, ⟨by omega, by omega⟩, fun q => by omega, fun _ => ?_⟩
        refine s_put hI hS2 hT3 a (by omega) ⟨hc, by omega⟩ (fun T4 U4 hT4 => ⟨⟨by omega, by omega⟩, fun z => ?_, fun z => ?_⟩)
        · rw [mput_n z] at hT4
          have st : itI (whF B N g) 0 (c + 1) (-6, 0, 1) = itI (whF B N g) 0 c (-6, 0, 1) := by rw [itI_s hc]; exact if_neg (fun q => z q.1)
          refine ih (k, u, l, T4, U4) ⟨by omega, hT4, ?_, ?_⟩
          · rw [st]; exact e1
          · rw [st]; exact e2
        · have z := Decidable.of_not_not z
          have hI4 := inv_put (c := c) hI a (show g < 10 by omega) hc
          refine s_weigh hB hI4.2.1 hS2 hT4 (fun U5 hU5 => s_mostStrained hI4 hS2 hT4 hU5 (fun q hq => s_strainUpper hU5 hq (fun u1 u10 u11 => s_strainLower hB hS2 hq (fun l1 l10 l11 => ⟨kr, fun y => ?_, fun y => ?_⟩))))
          · have fr := FR_of hI4 hq u10 u11 l10 l11
            have st : itI (whF B N g) 0 (c + 1) (-6, 0, 1) = (c, (stv B (mput B N g c).2).1, (stv B (mput B N g c).2).2) := by rw [itI_s hc]; exact if_pos ⟨z, Or.inl (by omega)⟩
            unfold wp_X6_where_141
            refine s_unput hI hS2 a (by omega) hc z hT4 (fun T6 hT6 => ih (c, u1, l1, T6, U5) ⟨by omega, hT6, ?_, ?_⟩)
            · rw [st]
            · rw [st]; exact fr
          · have fr := FR_of hI4 hq u10 u11 l10 l11
            have lt := FR_lt fr e2
            have m1 := mul_r fr.1.1 (show u1 ≤ 12093235200 by have := fr.1; omega) (show 0 ≤ l by have := e2.2.1; omega) e2.2.1.2
            have m2 := mul_r e2.1.1 (show u ≤ 12093235200 by have := e2.1; omega) (show 0 ≤ l1 by have := fr.2.1; omega) fr.2.1.2
            refine ⟨⟨by omega, by omega⟩, ⟨by omega, by omega⟩, fun x => ?_, fun x => ?_⟩
            · have st : itI (whF B N g) 0 (c + 1) (-6, 0, 1) = itI (whF B N g) 0 c (-6, 0, 1) := by
                rw [itI_s hc]
                refine if_neg (fun w => ?_)
                rcases w.2 with w | w
                · omega
                · have := lt.mpr w; omega
              unfold wp_X6_where_141
              refine s_unput hI hS2 a (by omega) hc z hT4 (fun T6 hT6 => ih (k, u, l, T6, U5) ⟨by omega, hT6, ?_, ?_⟩)
              · rw [st]; exact e1
              · rw [st]; exact e2
            · have st : itI (whF B N g) 0 (c + 1) (-6, 0, 1) = (c, (stv B (mput B N g c).2).1, (stv B (mput B N g c).2).2) := by
                rw [itI_s hc]
                exact if_pos ⟨z, Or.inr (lt.mp (by omega))⟩
              unfold wp_X6_where_141
              refine s_unput hI hS2 a (by omega) hc z hT4 (fun T6 hT6 => ih (c, u1, l1, T6, U5) ⟨by omega, hT6, ?_, ?_⟩)
              · rw [st]
              · rw [st]; exact fr
    · rw [if_pos f] at h; exact h _ _ _
  · rw [if_pos a] at h; exact h _ _ _
theorem s_X7_where {B : gMB} {P : gMP} {N : gMN} {L : gML} {V : gMV} {g : Int} {Q : Int → gMN → gML → gMV → Prop} (hI : Inv B P) (hN : Scr N L) (rg : rI g) (h : ∀ N' L' V', Scr N' L' → Q (vWhere B P g) N' L' V') : wp_X7_where B P N L V g Q := by
  obtain ⟨hB, hP, hD, hSp, hO⟩ := id hI
  have hn := hB.1
  unfold wp_X7_where vWhere at *
  refine s_X7_in rg (by decide) (by decide) (fun a b => ⟨fun _ => ?_, fun q => absurd (by decide) q⟩) (fun a => ⟨fun q => absurd rfl q, fun _ => ?_⟩)
  · rw [if_neg (fun q => q ⟨a, b⟩)] at h
    have hr := hP.nr hB g a (by omega)
    refine s_X7_has hB.2.1 ⟨a, by omega⟩ (fun f1 => ⟨fun q => absurd q (by decide), fun _ => ⟨⟨a, by omega⟩, ⟨by omega, by omega⟩, fun f2 => ?_, fun f2 => ?_⟩⟩) (fun f => ⟨fun _ => ?_, fun q => absurd rfl q⟩)
    · rw [if_neg (fun q => by rcases q with q | q; rw [f1] at q; exact absurd q (by decide); omega)] at h
      refine lp_inv (fun m c (s : (Int × Int × Int) × gMN × gML × gMV) => wp_X7_where_46 B P _ Q m g s.1.1 s.1.2.1 s.1.2.2 c s.2.1 s.2.2.1 s.2.2.2) B.1 (fun c s => 0 ≤ c ∧ Scr s.2.1 s.2.2.1 ∧ s.1 = itI (whF B P g) 0 c (-6, 0, 1)) ?_ ?_ 0 ((-6, 0, 1), N, L, V) (by omega) ⟨by omega, hN, (itI_0 (by omega)).symm⟩
      · rintro m ⟨s, N3, L3, V3⟩ ⟨hc, hs, e1⟩
        show wp_X7_where_46 B P _ Q (m + 1) g s.1 s.2.1 s.2.2 B.1 N3 L3 V3
        unfold wp_X7_where_46
        dsimp only at e1
        rw [← e1] at h
        exact ⟨⟨by omega, by omega⟩, ⟨by omega, by omega⟩, fun _ => h _ _ _ hs, fun q => absurd (Int.le_refl _) q⟩
      · rintro m c ⟨s, N3, L3, V3⟩ hlt ⟨hc, hs, e1⟩ ih
        dsimp only at e1 hs
        have hr := wh_r hI a (show g < 10 by omega) c hc
        rw [← e1] at hr
        have hpr := mput_r B P g c
        have next : itI (whF B P g) 0 (c + 1) (-6, 0, 1) = whF B P g c s := by rw [itI_s hc, ← e1]
        show wp_X7_where_46 B P _ Q (m + 1) g s.1 s.2.1 s.2.2 c N3 L3 V3
        unfold wp_X7_where_46
        refine ⟨⟨by omega, by omega⟩, ⟨by omega, by omega⟩, fun q => by omega, fun _ => s_X7_asNow hP.1 hs.1 ?_⟩
        refine s_X7_put hI hs.2 a (by omega) ⟨hc, by omega⟩ (fun L4 hz4 => ⟨⟨by omega, by omega⟩, fun z => ?_, fun z => ?_⟩)
        · refine ih (s, _, L4, V3) ⟨by omega, ⟨(congrArg (fun t : gMN => Z10 t.1 ∧ Z10 t.2) (mput_n z)).mpr hP.1, hz4⟩, ?_⟩
          rw [next]; exact (if_neg (fun q => z q.1)).symm
        · have z := Decidable.of_not_not z
          have hI4 := inv_put (c := c) hI a (show g < 10 by omega) hc
          have hv := stv_r hI4
          refine s_X7_layStrain hI4 hz4 ⟨⟨by omega, by omega⟩, fun y => ?_, fun y => ?_⟩
          · unfold wp_X7_where_94
            refine ih ((c, (stv B (mput B P g c).2).1, (stv B (mput B P g c).2).2), _, _, stv B (mput B P g c).2) ⟨by omega, ⟨hI4.2.1.1, ldA_z hB⟩, ?_⟩
            rw [next]; exact (if_pos ⟨z, Or.inl y⟩).symm
          · have m1 := mul_r hv.1 hv.2.1 (show 0 ≤ s.2.2 by have := hr.2.2.2.1; omega) hr.2.2.2.2
            have m2 := mul_r hr.2.1 hr.2.2.1 (show 0 ≤ (stv B (mput B P g c).2).2 by have := hv.2.2.1; omega) hv.2.2.2
            refine ⟨⟨by omega, by omega⟩, ⟨by omega, by omega⟩, fun x => ?_, fun x => ?_⟩
            · refine ih (s, _, _, stv B (mput B P g c).2) ⟨by omega, ⟨hI4.2.1.1, ldA_z hB⟩, ?_⟩
              rw [next]; exact (if_neg (fun w => by rcases w.2 with w | w <;> omega)).symm
            · unfold wp_X7_where_94
              refine ih ((c, (stv B (mput B P g c).2).1, (stv B (mput B P g c).2).2), _, _, stv B (mput B P g c).2) ⟨by omega, ⟨hI4.2.1.1, ldA_z hB⟩, ?_⟩
              rw [next]; exact (if_pos ⟨z, Or.inr (by omega)⟩).symm
    · rw [if_pos (Or.inr (by omega))] at h; exact h _ _ _ hN
    · rw [if_pos (Or.inl f)] at h; exact h _ _ _ hN
  · rw [if_pos a] at h; exact h _ _ _ hN
/-! gate -/
def gtF (B : gMB) (N : gMN) (c r w : Int) : Int → Int → Int := fun g a => if B.2.2.1 g = w ∧ (mput B N g c).1 = 0 ∧ (mput B N g c).2.1 g = r then ior a (ishl 1 g) else a
def vGate (B : gMB) (N : gMN) (c r w : Int) : Int := if ¬ (0 ≤ c ∧ c ≤ B.1 - 1) then -1 else if ¬ ((0 ≤ r ∧ r ≤ 9) ∧ (1 ≤ w ∧ w ≤ 3)) then -2 else itI (gtF B N c r w) 0 10 0
theorem gt_S {B : gMB} {N : gMN} {c r w : Int} (i : Int) (h0 : 0 ≤ i) (h1 : i ≤ 10) : S10 (itI (gtF B N c r w) 0 i 0) := itI_ind (P := fun _ a => S10 a) h0 S10_0 (fun k a k0 k1 h => by
  unfold gtF
  split
  · exact S10_or h (S10_shl ⟨k0, by omega⟩)
  · exact h)
theorem s_gate {B : gMB} {N : gMN} {S Sr : gWS} {T Tr : gWT} {Ur : gWU} {c r w : Int} {Q : Int → gWS → gWT → gWU → Prop} (hI : Inv B N) (hS : SR B S) (hT : TR B N T) (rc : rI c) (rr : rI r) (rw : rI w) (h : ∀ S' T' U', Q (vGate B N c r w) S' T' U') : wp_X6_gate S T Sr Tr Ur c r w Q := by
  obtain ⟨hB, hN, hD, hSp, hO⟩ := id hI
  have hn := hB.1
  unfold wp_X6_gate vGate at *
  refine s_isNoColumn hB hS rc (fun a b => ⟨fun _ => ?_, fun q => absurd rfl q⟩) (fun a => ⟨fun q => absurd q (by decide), fun _ => ?_⟩)
  · rw [if_neg (fun q => q ⟨a, b⟩)] at h
    refine s_isOutside rr (by decide) (by decide) (fun r0 r9 => ⟨fun q => absurd rfl q, fun _ => ?_⟩) (fun z => ⟨fun _ => ?_, fun q => absurd (by decide) q⟩)
    · refine s_isOutside rw (by decide) (by decide) (fun w0 w3 => ⟨fun _ => ?_, fun q => absurd rfl q⟩) (fun z => ⟨fun q => absurd q (by decide), fun _ => ?_⟩)
      · rw [if_neg (fun q => q ⟨⟨r0, r9⟩, w0, w3⟩)] at h
        refine s_become hS hT (fun S2 T2 hS2 hT2 => ?_)
        refine lp_inv (fun m g (s : Int × gWT × gWU) => wp_X6_gate_49 _ Q m c r w s.1 g S2 s.2.1 s.2.2) 10 (fun g s => 0 ≤ g ∧ TR B N s.2.1 ∧ s.1 = itI (gtF B N c r w) 0 g 0) ?_ ?_ 0 (0, T2, Ur) (by omega) ⟨by omega, hT2, (itI_0 (by omega)).symm⟩
        · rintro m ⟨x, T3, U3⟩ ⟨hg, hT3, e⟩
          show wp_X6_gate_49 _ Q (m + 1) c r w x 10 S2 T3 U3
          unfold wp_X6_gate_49
          dsimp only at e
          rw [← e] at h
          exact ⟨by decide, fun _ => h _ _ _, fun q => absurd (Int.le_refl 10) q⟩
        · rintro m g ⟨x, T3, U3⟩ hlt ⟨hg, hT3, e⟩ ih
          dsimp only at hT3 e
          have hpr := mput_r B N g c
          have hwd := (hB.2.2 g hg hlt).1
          have next : itI (gtF B N c r w) 0 (g + 1) 0 = gtF B N c r w g x := by rw [itI_s hg, ← e]
          show wp_X6_gate_49 _ Q (m + 1) c r w x g S2 T3 U3
          unfold wp_X6_gate_49
          refine ⟨⟨by omega, by omega⟩, fun q => by omega, fun _ => s_at ⟨hg, hlt⟩ (by omega) ?_⟩
          rw [(hS2.2.2 g hg hlt).1]
          refine ⟨⟨by omega, by omega⟩, rw, fun z => ih (x, T3, U3) ⟨by omega, hT3, ?_⟩, fun z => ?_⟩
          · rw [next]; exact (if_neg (fun q => z q.1)).symm
          · have z := Decidable.of_not_not z
            refine s_put hI hS2 hT3 hg hlt ⟨a, by omega⟩ (fun T4 U4 hT4 => ⟨⟨by omega, by omega⟩, fun y => ?_, fun y => ?_⟩)
            · rw [mput_n y] at hT4
              refine ih (x, T4, U4) ⟨by omega, hT4, ?_⟩
              rw [next]; exact (if_neg (fun q => y q.2.1)).symm
            · have y := Decidable.of_not_not y
              have hI4 := inv_put (c := c) hI hg hlt a
              obtain ⟨f1, f2, f3, f4⟩ := mput_0 y
              have p0 := (put_fits hB hN hD hSp hg hlt f2 f1 a f3)
              have in4 : 0 ≤ (mput B N g c).2.1 g := by rw [f4, mset_s1]; exact p0.1
              have r4 := hI4.2.1.nr hB g hg hlt
              refine s_at ⟨hg, hlt⟩ (by omega) ?_
              rw [(hT4.2.1 g hg hlt in4).1]
              refine ⟨⟨by omega, by omega⟩, rr, fun v => ?_, fun v => ?_⟩
              · unfold wp_X6_gate_110
                refine s_unput hI hS2 hg hlt a y hT4 (fun T6 hT6 => ih (x, T6, U4) ⟨by omega, hT6, ?_⟩)
                rw [next]; exact (if_neg (fun q => v q.2.2)).symm
              · unfold wp_X6_gate_110
                refine s_unput hI hS2 hg hlt a y hT4 (fun T6 hT6 => ih (ior x (ishl 1 g), T6, U4) ⟨by omega, hT6, ?_⟩)
                rw [next]; exact (if_pos ⟨z, y, Decidable.of_not_not v⟩).symm
      · rw [if_pos (fun q => z q.2)] at h; exact h _ _ _
    · rw [if_pos (fun q => z q.1)] at h; exact h _ _ _
  · rw [if_pos a] at h; exact h _ _ _
theorem s_X7_gate {B : gMB} {P : gMP} {N : gMN} {L : gML} {c r w : Int} {Q : Int → gMN → gML → Prop} (hI : Inv B P) (hN : Scr N L) (rc : rI c) (rr : rI r) (rw : rI w) (h : ∀ N' L', Scr N' L' → Q (vGate B P c r w) N' L') : wp_X7_gate B P N L c r w Q := by
  obtain ⟨hB, hP, hD, hSp, hO⟩ := id hI
  have hn := hB.1
  unfold wp_X7_gate vGate at *
  refine s_X7_in rc (by decide) ⟨by omega, by omega⟩ (fun a b => ⟨fun _ => ?_, fun q => absurd (by decide) q⟩) (fun a => ⟨fun q => absurd rfl q, fun _ => ?_⟩)
  · rw [if_neg (fun q => q ⟨a, b⟩)] at h
    refine s_X7_in rr (by decide) (by decide) (fun r0 r9 => ⟨fun q => absurd q (by decide), fun _ => ?_⟩) (fun z => ⟨fun _ => ?_, fun q => absurd rfl q⟩)
    · refine s_X7_in rw (by decide) (by decide) (fun w0 w3 => ⟨fun _ => ?_, fun q => absurd (by decide) q⟩) (fun z => ⟨fun q => absurd rfl q, fun _ => ?_⟩)
      · rw [if_neg (fun q => q ⟨⟨r0, r9⟩, w0, w3⟩)] at h
        refine lp_inv (fun m g (s : Int × gMN × gML) => wp_X7_gate_44 B P _ Q m c r w s.1 g s.2.1 s.2.2) 10 (fun g s => 0 ≤ g ∧ Scr s.2.1 s.2.2 ∧ s.1 = itI (gtF B P c r w) 0 g 0) ?_ ?_ 0 (0, N, L) (by omega) ⟨by omega, hN, (itI_0 (by omega)).symm⟩
        · rintro m ⟨x, N3, L3⟩ ⟨hg, hs, e⟩
          show wp_X7_gate_44 B P _ Q (m + 1) c r w x 10 N3 L3
          unfold wp_X7_gate_44
          dsimp only at e
          rw [← e] at h
          exact ⟨by decide, fun _ => h _ _ hs, fun q => absurd (Int.le_refl 10) q⟩
        · rintro m g ⟨x, N3, L3⟩ hlt ⟨hg, hs, e⟩ ih
          dsimp only at hs e
          have hpr := mput_r B P g c
          have hwd := (hB.2.2 g hg hlt).1
          have hx : S10 x := by rw [e]; exact gt_S g hg (by omega)
          have next : itI (gtF B P c r w) 0 (g + 1) 0 = gtF B P c r w g x := by rw [itI_s hg, ← e]
          have no : ∀ N5 L5, Scr N5 L5 → ¬ (B.2.2.1 g = w ∧ (mput B P g c).1 = 0 ∧ (mput B P g c).2.1 g = r) → wp_X7_gate_104 (fun (x1 : Int) (x2 : Int) (x3 : Int) (x4 : Int) (x5 : Int) (N_h : gMN) (L_h : gML) => wp_X7_gate_44 B P (fun x4 N L => Q x4 N L) Q m x1 x2 x3 x4 x5 N_h L_h) Q c r w x g 0 N5 L5 := fun N5 L5 hs5 q => by
            unfold wp_X7_gate_104
            refine ⟨by decide, fun _ => ih (ior x 0, N5, L5) ⟨by omega, hs5, ?_⟩, fun z => absurd rfl z⟩
            rw [next, ior_0 hx]; exact (if_neg q).symm
          show wp_X7_gate_44 B P _ Q (m + 1) c r w x g N3 L3
          unfold wp_X7_gate_44
          refine ⟨⟨by omega, by omega⟩, fun q => by omega, fun _ => s_X7_asNow hP.1 hs.1 (s_X7_has hB.2.1 ⟨hg, hlt⟩ (fun f1 => ⟨fun q => absurd q (by decide), fun _ => ⟨⟨hg, hlt⟩, ⟨by omega, by omega⟩, rw, fun z => no _ _ ⟨hP.1, hs.2⟩ (fun q => z q.1), fun z => ?_⟩⟩) (fun f => ⟨fun _ => no _ _ ⟨hP.1, hs.2⟩ (fun q => ?_), fun q => absurd rfl q⟩))⟩
          · have z := Decidable.of_not_not z
            have hI4 := inv_put (c := c) hI hg hlt a
            refine s_X7_put hI hs.2 hg hlt ⟨a, by omega⟩ (fun L4 hz4 => ⟨⟨by omega, by omega⟩, fun y => no _ _ ⟨hI4.2.1.1, hz4⟩ (fun q => y q.2.1), fun y => ?_⟩)
            have r4 := hI4.2.1.nr hB g hg hlt
            refine ⟨⟨by omega, by omega⟩, rr, fun v => no _ _ ⟨hI4.2.1.1, hz4⟩ (fun q => v q.2.2), fun v => ?_⟩
            unfold wp_X7_gate_104
            refine ⟨by decide, fun z => absurd z (by decide), fun _ => ih (ior x (ishl 1 g), _, L4) ⟨by omega, ⟨hI4.2.1.1, hz4⟩, ?_⟩⟩
            rw [next]; exact (if_pos ⟨z, Decidable.of_not_not y, Decidable.of_not_not v⟩).symm
          · have := (mput_0 q.2.1).1
            rw [f] at this; exact absurd this (by decide)
      · rw [if_pos (fun q => z q.2)] at h; exact h _ _ hN
    · rw [if_pos (fun q => z q.1)] at h; exact h _ _ hN
  · rw [if_pos a] at h; exact h _ _ hN
