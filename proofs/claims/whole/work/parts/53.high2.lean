/-! high: the class's climb -/
def Prc (B : gMB) (N : gMN) (puts g c s : Int) : Prop := ∀ g' c', (0 ≤ g' ∧ g' < 10) → (0 ≤ c' ∧ c' < B.1) → (g' < g ∨ (g' = g ∧ c' < c)) → (mput B N g' c').1 = 0 → ∀ q M, Rch B q (mput B N g' c').2 M → 4 * hst B M + 3 - (puts + 1 + q) ≤ s
def Sof (B : gMB) (N : gMN) (puts b s : Int) : Prop := b ≤ s ∧ (s = b ∨ ∃ q M, Rch B q N M ∧ s = 4 * hst B M + 3 - (puts + q))
theorem s_climb {B : gMB} {S : gWS} {F : Int} (hS : SR B S) (F3 : F ≤ 3) (k : Nat) : ∀ {e : Nat} {N : gMN} {T : gWT} {U : gWU} {puts b : Int} {Q : Int → gWT → gWU → Prop}, Inv B N → TR B N T → popc (frs B N) = k → 0 ≤ puts → puts + k = F → Bst F b → (∀ v T' U', TR B N T' → Clb B N puts b v → Q v T' U') → wp_X6_climb (k + 1 + e) S T U puts b Q := by
  induction k with
  | zero =>
    intro e N T U puts b Q hI hT hk p0 hF hb h
    rw [show 0 + 1 + e = e + 1 by omega]
    show wpb_X6_climb (wp_X6_climb e) S T U puts b Q
    have hB := hI.1
    have hh := hst_10 hB hI.2.1
    unfold wpb_X6_climb wp_X5_freeGuests
    rw [hS.2.1, lbs_T hT]
    refine ⟨⟨by omega, by omega⟩, fun q => by omega, fun _ => ⟨fun _ => s_tallest hB hI.2.1 hT ⟨⟨by have := hb.1; omega, by have := hb.1; omega⟩, ⟨by omega, by omega⟩, s_bitCount (frs_S hB) ?_⟩, fun q => by omega⟩⟩
    rw [show popc (iand B.2.1 (ixor (lbs N) (-1))) = ((0 : Nat) : Int) from hk, Int.tdiv_eq_ediv_of_nonneg (by omega)]
    have hb1 := hb.1
    refine ⟨⟨by omega, by omega⟩, ⟨by omega, by omega⟩, ⟨by omega, by omega⟩, fun q => by omega, fun q => h _ T U hT ⟨by omega, ?_, fun r M hr => ?_⟩⟩
    · by_cases z : b < 4 * hst B N + 3 - puts
      · exact Or.inr ⟨0, N, rfl, by omega⟩
      · exact Or.inl (by omega)
    · have hl := rch_le hI hr
      have hb2 := hb.2
      omega
  | succ k ih =>
    intro e N T U puts b Q hI hT hk p0 hF hb h
    rw [show k + 1 + 1 + e = (k + 1 + e) + 1 by omega]
    show wpb_X6_climb (wp_X6_climb (k + 1 + e)) S T U puts b Q
    have hB := hI.1
    have hn := hB.1
    have hh := hst_10 hB hI.2.1
    unfold wpb_X6_climb wp_X5_freeGuests
    rw [hS.2.1, lbs_T hT]
    refine ⟨⟨by omega, by omega⟩, fun q => by omega, fun _ => ⟨fun _ => s_tallest hB hI.2.1 hT ⟨⟨by have := hb.1; omega, by have := hb.1; omega⟩, ⟨by omega, by omega⟩, s_bitCount (frs_S hB) ?_⟩, fun q => by omega⟩⟩
    rw [show popc (iand B.2.1 (ixor (lbs N) (-1))) = ((k + 1 : Nat) : Int) from hk, Int.tdiv_eq_ediv_of_nonneg (by omega)]
    have hb1 := hb.1
    have hb2 := hb.2
    obtain ⟨b', eb⟩ : ∃ b', max b (4 * hst B N + 3 - puts) = b' := ⟨_, rfl⟩
    have hb' : Bst F b' ∧ 3 - F ≤ b' % 4 ∧ b ≤ b' ∧ 4 * hst B N + 3 - puts ≤ b' ∧ (b' = b ∨ b' = 4 * hst B N + 3 - puts) := by
      unfold Bst; omega
    have hso : Sof B N puts b b' := ⟨hb'.2.2.1, hb'.2.2.2.2.imp id (fun q => ⟨0, N, rfl, by omega⟩)⟩
    rw [eb]
    refine ⟨⟨by omega, by omega⟩, ⟨by omega, by omega⟩, ⟨by omega, by omega⟩, fun q => ?_, fun q => h _ T U hT ⟨hso.1, hso.2, fun r M hr => ?_⟩⟩
    · have nxt : ∀ {g s}, Prc B N puts g B.1 s → Prc B N puts (g + 1) 0 s := fun {g s} hp g' c' hg hc hl hm => hp g' c' hg hc (by omega) hm
      have end_ : ∀ s, b' ≤ s → Sof B N puts b s → Prc B N puts 10 0 s → Clb B N puts b s := fun s hs hf hp => by
        refine ⟨hf.1, hf.2, fun r M hr => ?_⟩
        cases r with
        | zero => rw [show M = N from hr]; omega
        | succ r =>
          obtain ⟨g, c, hg, hc, hm, hr⟩ := hr
          have := hp g c hg hc (Or.inl hg.2) hm r M hr
          omega
      refine lp_inv (fun n g (x : Int × gWT × gWU) => wp_X6_climb_61 (wp_X6_climb (k + 1 + e)) S _ Q n puts x.1 S.1 g x.2.1 x.2.2) 10 (fun g x => 0 ≤ g ∧ TR B N x.2.1 ∧ b' ≤ x.1 ∧ Bst F x.1 ∧ Sof B N puts b x.1 ∧ Prc B N puts g 0 x.1) ?_ ?_ 0 (b', T, U) (by omega) ⟨by omega, hT, Int.le_refl _, hb'.1, hso, fun g' c' hg hc hl => by omega⟩
      · rintro n ⟨s, T3, U3⟩ ⟨_, hT3, h1, h2, h3, h4⟩
        show wp_X6_climb_61 (wp_X6_climb (k + 1 + e)) S _ Q (n + 1) puts s S.1 10 T3 U3
        unfold wp_X6_climb_61
        exact ⟨by decide, fun _ => h s T3 U3 hT3 (end_ s h1 h3 h4), fun q => absurd (Int.le_refl _) q⟩
      · rintro n g ⟨s, T3, U3⟩ hlt ⟨g0, hT3, h1, h2, h3, h4⟩ ih2
        dsimp only at hT3 h1 h2 h3 h4
        show wp_X6_climb_61 (wp_X6_climb (k + 1 + e)) S _ Q (n + 1) puts s S.1 g T3 U3
        unfold wp_X6_climb_61
        refine ⟨⟨by omega, by omega⟩, fun q => by omega, fun _ => s_isFree hB hS hT3 g0 hlt (fun f1 f2 => ⟨fun q => absurd q (by decide), fun _ => ?_⟩) (fun f => ⟨fun _ => ih2 (s, T3, U3) ⟨by omega, hT3, h1, h2, h3, nxt (fun g' c' hg hc hl hm => ?_)⟩, fun q => absurd rfl q⟩)⟩
        · rw [hS.1]
          refine lp_inv (fun n2 c (x : Int × gWT × gWU) => wp_X6_climb_80 (wp_X6_climb (k + 1 + e)) S _ Q n2 puts x.1 B.1 g c x.2.1 x.2.2) B.1 (fun c x => 0 ≤ c ∧ TR B N x.2.1 ∧ b' ≤ x.1 ∧ Bst F x.1 ∧ Sof B N puts b x.1 ∧ Prc B N puts g c x.1) ?_ ?_ 0 (s, T3, U3) (by omega) ⟨by omega, hT3, h1, h2, h3, h4⟩
          · rintro n2 ⟨s, T4, U4⟩ ⟨_, hT4, h1, h2, h3, h4⟩
            show wp_X6_climb_80 (wp_X6_climb (k + 1 + e)) S _ Q (n2 + 1) puts s B.1 g B.1 T4 U4
            unfold wp_X6_climb_80
            refine ⟨⟨by omega, by omega⟩, ⟨by omega, by omega⟩, fun _ => ?_, fun q => absurd (Int.le_refl _) q⟩
            have := ih2 (s, T4, U4) ⟨by omega, hT4, h1, h2, h3, nxt h4⟩
            rw [hS.1] at this
            exact this
          · rintro n2 c ⟨s, T4, U4⟩ hc ⟨c0, hT4, h1, h2, h3, h4⟩ ih3
            dsimp only at hT4 h1 h2 h3 h4
            have hpr := mput_r B N g c
            show wp_X6_climb_80 (wp_X6_climb (k + 1 + e)) S _ Q (n2 + 1) puts s B.1 g c T4 U4
            unfold wp_X6_climb_80
            refine ⟨⟨by omega, by omega⟩, ⟨by omega, by omega⟩, fun q => by omega, fun _ => s_put hI hS hT4 g0 hlt ⟨c0, by omega⟩ (fun T5 U5 hT5 => ⟨⟨by omega, by omega⟩, fun z => ?_, fun z => ?_⟩)⟩
            · rw [mput_n z] at hT5
              refine ih3 (s, T5, U5) ⟨by omega, hT5, h1, h2, h3, fun g' c' hg hc' hl hm => h4 g' c' hg hc' ?_ hm⟩
              rcases hl with hl | ⟨hl1, hl2⟩
              · exact Or.inl hl
              · by_cases ec : c' = c
                · rw [hl1, ec] at hm; exact absurd hm z
                · exact Or.inr ⟨hl1, by omega⟩
            · have z := Decidable.of_not_not z
              have hI5 := inv_put (c := c) hI g0 hlt c0
              have hf5 := frs_put hI g0 hlt c0 z
              refine ih (e := e) hI5 hT5 (by omega) (by omega) (by omega) h2 (fun v T6 U6 hT6 hv => ?_)
              have hbv := clb_bst (F := F) hI5 (by omega) F3 (by omega) h2 hv
              obtain ⟨v1, v2, v3⟩ := hv
              refine s_unput hI hS g0 hlt c0 z hT6 (fun T7 hT7 => ih3 (v, T7, U6) ⟨by omega, hT7, by omega, hbv, ⟨by have := h3.1; omega, ?_⟩, fun g' c' hg hc' hl hm r M hr => ?_⟩)
              · rcases v2 with v2 | ⟨r, M, hr, v2⟩
                · rw [v2]; exact h3.2
                · exact Or.inr ⟨r + 1, M, ⟨g, c, ⟨g0, hlt⟩, ⟨c0, hc⟩, z, hr⟩, by omega⟩
              · by_cases eg : g' = g ∧ c' = c
                · rw [eg.1, eg.2] at hr
                  exact v3 r M hr
                · have := h4 g' c' hg hc' (by omega) hm r M hr
                  omega
        · by_cases eg : g' = g
          · obtain ⟨m1, m2, _, _⟩ := mput_0 hm
            rw [eg] at m1 m2
            rcases f with f | f
            · rw [f] at m1; exact absurd m1 (by decide)
            · omega
          · exact h4 g' c' hg hc (by omega) hm
    · have hl := rch_le hI hr
      omega
