/-! high: the reference's walk over all numbers -/
def Hso (B : gMB) (P : gMP) (p c most by_ : Int) : Prop := ((-1 ≤ most ∧ most ≤ 10) ∧ (0 ≤ by_ ∧ by_ ≤ 3)) ∧ (most = -1 ∨ ∃ q M, Rch B q P M ∧ hst B M = most ∧ by_ = (q : Int)) ∧ ((most = -1 ∨ by_ ≤ p)) ∧ ∀ (q : Nat) (x : Int), 0 ≤ x → x < p100 q → shq B q P x = true → ((q : Int) < p ∨ ((q : Int) = p ∧ x < c)) → hst B (shf B q P x) < most ∨ (hst B (shf B q P x) = most ∧ by_ ≤ (q : Int))
theorem s_codes {p : Nat} {Q : Int → Prop} (hp : p ≤ 3) (h : Q (p100 p)) : wp_X7_codes p Q := by
  unfold wp_X7_codes
  refine ⟨⟨by omega, by omega⟩, fun a => ⟨fun b => ⟨fun c => ?_, fun c => ?_⟩, fun b => ?_⟩, fun a => ?_⟩
  · have e : p = 3 := by omega
    subst e; exact h
  · have e : p = 2 := by omega
    subst e; exact h
  · have e : p = 1 := by omega
    subst e; exact h
  · have e : p = 0 := by omega
    subst e; exact h
theorem s_X7_high {B : gMB} {P : gMP} {N : gMN} {L : gML} {Z : gMZ} {w : Int} {Q : Int → gMN → gML → gMZ → Prop} (hI : Inv B P) (hN : Scr N L) (rw_ : rI w) (h : ∀ v, VHi B P w v → ∀ N' L' Z', Scr N' L' → Q v N' L' Z') : wp_X7_high B P N L Z w Q := by
  have hB := hI.1
  have hR := hI.2.1.nr hB
  unfold wp_X7_high
  refine s_X7_in rw_ (by decide) (by decide) (fun a b => ⟨fun _ => ?_, fun q => absurd (by decide) q⟩) (fun a => ⟨fun q => absurd rfl q, fun _ => h _ (Or.inl ⟨a, rfl⟩) _ _ _ hN⟩)
  refine s_X7_outside hB hR (s_X7_bits (frs_S hB) ?_)
  have hp := popc_r (frs B P)
  refine ⟨⟨by omega, by omega⟩, fun z => ?_, fun z => h _ (Or.inr (Or.inl ⟨⟨a, b⟩, by omega, rfl⟩)) _ _ _ hN⟩
  refine lp_inv (fun n p (s : (Int × Int) × gMN × gML × gMZ) => wp_X7_high_36 B P _ Q n w (popc (frs B P)) s.1.1 s.1.2 p s.2.1 s.2.2.1 s.2.2.2) (popc (frs B P) + 1) (fun p s => 0 ≤ p ∧ Scr s.2.1 s.2.2.1 ∧ Hso B P p 0 s.1.1 s.1.2) ?_ ?_ 0 ((-1, 0), N, L, Z) (by omega) ⟨by omega, hN, (show Hso B P 0 0 (-1) 0 from ⟨⟨⟨by omega, by omega⟩, by omega, by omega⟩, Or.inl rfl, Or.inl rfl, fun q x x0 x1 hq hl => by omega⟩)⟩
  · rintro n ⟨⟨most, by_⟩, N3, L3, Z3⟩ ⟨p0, hs, h1, h2, h3, h4⟩
    dsimp only at hs h1 h2 h3 h4
    have hh := hst_10 hB hI.2.1
    have h0 := h4 0 0 (by omega) (p100_pos 0) rfl (Or.inl (by omega))
    rw [show shf B 0 P 0 = P from rfl] at h0
    have hv : HV B P most by_ := by
      rcases h2 with h2 | ⟨q, M, hq, e1, e2⟩
      · omega
      · refine ⟨⟨q, M, hq, e1, e2⟩, fun r M' hr => ?_⟩
        have hl := rch_le hI hr
        obtain ⟨x, x0, x1, e3, e4⟩ := rch_to hB hr
        have := h4 r x x0 x1 e3 (Or.inl (by omega))
        rw [e4] at this; exact this
    show wp_X7_high_36 B P _ Q (n + 1) w (popc (frs B P)) most by_ (popc (frs B P) + 1) N3 L3 Z3
    unfold wp_X7_high_36
    refine ⟨⟨by omega, by omega⟩, ⟨by omega, by omega⟩, fun _ => ⟨rw_, fun y => h _ (Or.inr (Or.inr ⟨⟨a, b⟩, z, most, by_, hv, ?_⟩)) _ _ _ hs, fun y => h _ (Or.inr (Or.inr ⟨⟨a, b⟩, z, most, by_, hv, ?_⟩)) _ _ _ hs⟩, fun q => by omega⟩
    · rw [if_neg y]
    · rw [if_pos (Decidable.of_not_not y)]
  · rintro n p ⟨⟨most, by_⟩, N3, L3, Z3⟩ hlt ⟨p0, hs, hso⟩ ih
    dsimp only at hs hso
    obtain ⟨t, rfl⟩ : ∃ t : Nat, p = (t : Int) := ⟨p.toNat, by omega⟩
    have ht : t ≤ 3 := by omega
    have hp3 := p100_3 ht
    show wp_X7_high_36 B P _ Q (n + 1) w (popc (frs B P)) most by_ t N3 L3 Z3
    unfold wp_X7_high_36
    refine ⟨⟨by omega, by omega⟩, ⟨by omega, by omega⟩, fun q => by omega, fun _ => ?_⟩
    refine lp_inv (fun n2 c (s : (Int × Int) × gMN × gML × gMZ) => wp_X7_high_45 B P _ Q n2 w (popc (frs B P)) s.1.1 s.1.2 t c s.2.1 s.2.2.1 s.2.2.2) (p100 t) (fun c s => 0 ≤ c ∧ Scr s.2.1 s.2.2.1 ∧ Hso B P t c s.1.1 s.1.2) ?_ ?_ 0 ((most, by_), N3, L3, Z3) (by omega) ⟨by omega, hs, hso⟩
    · rintro n2 ⟨⟨most, by_⟩, N4, L4, Z4⟩ ⟨c0, hs, h1, h2, h3, h4⟩
      dsimp only at hs h1 h2 h3 h4
      show wp_X7_high_45 B P _ Q (n2 + 1) w (popc (frs B P)) most by_ t (p100 t) N4 L4 Z4
      unfold wp_X7_high_45
      refine s_codes ht ⟨⟨by omega, by omega⟩, ⟨by omega, by omega⟩, fun _ => ih ((most, by_), N4, L4, Z4) ⟨by omega, hs, (show Hso B P (t + 1) 0 most by_ from ⟨h1, h2, by omega, fun q x x0 x1 hq hl => h4 q x x0 x1 hq ?_⟩)⟩, fun q => absurd (Int.le_refl _) q⟩
      rcases hl with hl | hl
      · by_cases e : (q : Int) = t
        · have e : q = t := by omega
          subst e
          exact Or.inr ⟨rfl, x1⟩
        · exact Or.inl (by omega)
      · omega
    · rintro n2 c ⟨⟨most, by_⟩, N4, L4, Z4⟩ hc ⟨c0, hs, h1, h2, h3, h4⟩ ih2
      dsimp only at hs h1 h2 h3 h4
      show wp_X7_high_45 B P _ Q (n2 + 1) w (popc (frs B P)) most by_ t c N4 L4 Z4
      unfold wp_X7_high_45
      refine s_codes ht ⟨⟨by omega, by omega⟩, ⟨by omega, by omega⟩, fun q => by omega, fun _ => ?_⟩
      refine s_X7_putsBy hI hs ht c0 hc (fun hq L5 Z5 hI5 hz5 => ⟨fun q => absurd q (by decide), fun _ => ?_⟩) (fun hq N5 L5 Z5 hs5 => ⟨fun _ => ih2 ((most, by_), N5, L5, Z5) ⟨by omega, hs5, h1, h2, h3, fun q x x0 x1 hx hl => h4 q x x0 x1 hx ?_⟩, fun q => absurd rfl q⟩)
      · have hr := rch_of (p := t) hB c0 hq
        have hh := hst_10 hI5.1 hI5.2.1
        have same : ∀ m b, ((-1 ≤ m ∧ m ≤ 10) ∧ (0 ≤ b ∧ b ≤ 3)) → most ≤ m → (most = m → by_ = b) → (hst B (shf B t P c) < m ∨ (hst B (shf B t P c) = m ∧ b ≤ t)) → ∀ (q : Nat) (x : Int), 0 ≤ x → x < p100 q → shq B q P x = true → ((q : Int) < t ∨ ((q : Int) = t ∧ x < c + 1)) → hst B (shf B q P x) < m ∨ (hst B (shf B q P x) = m ∧ b ≤ (q : Int)) := fun m b hm h5 h6 h7 q x x0 x1 hx hl => by
          by_cases e : (q : Int) = t ∧ x = c
          · have e1 : q = t := by omega
            rw [e1, e.2]; exact h7
          · have := h4 q x x0 x1 hx (by omega)
            rcases this with this | ⟨e1, e2⟩
            · exact Or.inl (by omega)
            · by_cases e3 : most = m
              · exact Or.inr ⟨by omega, by have := h6 e3; omega⟩
              · exact Or.inl (by omega)
        refine s_X7_highest hB (hI5.2.1.nr hB) ⟨⟨by omega, by omega⟩, ⟨by omega, by omega⟩, fun y => ?_, fun y => ?_⟩
        · unfold wp_X7_high_85
          refine ⟨⟨by omega, by omega⟩, ⟨by omega, by omega⟩, fun _ => ih2 ((most, by_), _, L5, Z5) ⟨by omega, ⟨hI5.2.1.1, hz5⟩, h1, h2, h3, same most by_ h1 (Int.le_refl _) (fun _ => rfl) ?_⟩, fun q => absurd y q⟩
          by_cases e : hst B (shf B t P c) = most
          · exact Or.inr ⟨e, by omega⟩
          · exact Or.inl (by omega)
        · unfold wp_X7_high_85
          exact ⟨⟨by omega, by omega⟩, ⟨by omega, by omega⟩, fun q => absurd q y, fun _ => ih2 ((hst B (shf B t P c), t), _, L5, Z5) ⟨by omega, ⟨hI5.2.1.1, hz5⟩, (show Hso B P t (c + 1) (hst B (shf B t P c)) t from ⟨⟨⟨by omega, by omega⟩, by omega, by omega⟩, Or.inr ⟨t, _, hr, rfl, rfl⟩, Or.inr (Int.le_refl _), same _ _ ⟨⟨by omega, by omega⟩, by omega, by omega⟩ (by omega) (fun e => by omega) (Or.inr ⟨rfl, Int.le_refl _⟩)⟩)⟩⟩
      · by_cases e : (q : Int) = t ∧ x = c
        · have e1 : q = t := by omega
          rw [e1, e.2, hq] at hx; exact absurd hx (by decide)
        · omega
