/-! key -/
def kyF (B : gMB) (N : gMN) : Int → (Int × Int) → (Int × Int) := fun g s => if 0 ≤ N.1 g ∧ s.2 < popc (vFw B N (ishl 1 g)) then (g, popc (vFw B N (ishl 1 g))) else s
def ky (B : gMB) (N : gMN) : Int × Int := itI (kyF B N) 0 10 (-6, -6)
theorem ky_r {B : gMB} {N : gMN} (i : Int) (h0 : 0 ≤ i) : (itI (kyF B N) 0 i (-6, -6) = (-6, -6)) ∨ ((0 ≤ (itI (kyF B N) 0 i (-6, -6)).1 ∧ (itI (kyF B N) 0 i (-6, -6)).1 < i) ∧ (0 ≤ (itI (kyF B N) 0 i (-6, -6)).2 ∧ (itI (kyF B N) 0 i (-6, -6)).2 ≤ 10)) := by
  refine itI_ind (P := fun (k : Int) (s : Int × Int) => s = (-6, -6) ∨ ((0 ≤ s.1 ∧ s.1 < k) ∧ (0 ≤ s.2 ∧ s.2 ≤ 10))) h0 (Or.inl rfl) (fun k s k0 k1 hs => ?_)
  unfold kyF
  split
  · exact Or.inr ⟨⟨k0, by dsimp only; omega⟩, popc_r _⟩
  · rcases hs with hs | hs
    · exact Or.inl hs
    · exact Or.inr ⟨⟨hs.1.1, by omega⟩, hs.2⟩
def vKey (B : gMB) (N : gMN) (w : Int) : Int := if ¬ (0 ≤ w ∧ w ≤ 1) then -2 else if w = 0 then (ky B N).1 else (ky B N).2
theorem s_key {B : gMB} {N : gMN} {S Sr : gWS} {T Tr : gWT} {Ur : gWU} {w : Int} {Q : Int → gWS → gWT → gWU → Prop} (hI : Inv B N) (hS : SR B S) (hT : TR B N T) (rw_ : rI w) (h : ∀ S' T' U', Q (vKey B N w) S' T' U') : wp_X6_key S T Sr Tr Ur w Q := by
  unfold wp_X6_key vKey at *
  refine s_isOutside rw_ (by decide) (by decide) (fun a b => ⟨fun _ => ?_, fun q => absurd rfl q⟩) (fun a => ⟨fun q => absurd q (by decide), fun _ => ?_⟩)
  · rw [if_neg (fun q => q ⟨a, b⟩)] at h
    refine lp_inv (fun n k (s : (Int × Int) × gWS × gWT × gWU) => wp_X6_key_21 S T _ Q n w s.1.1 s.1.2 k s.2.1 s.2.2.1 s.2.2.2) 10 (fun k s => 0 ≤ k ∧ s.1 = itI (kyF B N) 0 k (-6, -6)) ?_ ?_ 0 ((-6, -6), Sr, Tr, Ur) (by omega) ⟨by omega, (itI_0 (by omega)).symm⟩
    · rintro n ⟨s, S3, T3, U3⟩ ⟨k0, e⟩
      show wp_X6_key_21 S T _ Q (n + 1) w s.1 s.2 10 S3 T3 U3
      unfold wp_X6_key_21
      dsimp only at e
      unfold ky at h
      rw [← e] at h
      refine ⟨by decide, fun _ => ⟨rw_, fun y => ?_, fun y => ?_⟩, fun q => absurd (Int.le_refl _) q⟩
      · rw [if_neg y] at h; exact h _ _ _
      · rw [if_pos (Decidable.of_not_not y)] at h; exact h _ _ _
    · rintro n k ⟨s, S3, T3, U3⟩ hlt ⟨k0, e⟩ ih
      dsimp only at e
      have hs := ky_r (B := B) (N := N) k k0
      rw [← e] at hs
      have h2 : -6 ≤ s.2 ∧ s.2 ≤ 10 := by
        rcases hs with hs | hs
        · rw [hs]; simp
        · omega
      have next : itI (kyF B N) 0 (k + 1) (-6, -6) = kyF B N k s := by rw [itI_s k0, ← e]
      show wp_X6_key_21 S T _ Q (n + 1) w s.1 s.2 k S3 T3 U3
      unfold wp_X6_key_21
      refine ⟨⟨by omega, by omega⟩, fun q => by omega, fun _ => s_isLaid hT k0 hlt (fun z => ⟨fun q => absurd q (by decide), fun _ => ?_⟩) (fun z => ⟨fun _ => ih (s, S3, T3, U3) ⟨by omega, ?_⟩, fun q => absurd rfl q⟩)⟩
      · have hp := popc_r (vFw B N (ishl 1 k))
        refine s_fallenWithout hI.fi hS hT (S10_shl ⟨k0, hlt⟩) (fun S4 T4 U4 => s_bitCount (vFw_S hI.fi) ⟨⟨by omega, by omega⟩, ⟨by omega, by omega⟩, fun y => ih (s, S4, T4, U4) ⟨by omega, ?_⟩, fun y => ih ((k, popc (vFw B N (ishl 1 k))), S4, T4, U4) ⟨by omega, ?_⟩⟩)
        · rw [next]; exact (if_neg (fun q => by omega)).symm
        · rw [next]; exact (if_pos ⟨z, by omega⟩).symm
      · rw [next]; exact (if_neg (fun q => by omega)).symm
  · rw [if_pos a] at h; exact h _ _ _
theorem s_X7_key {B : gMB} {P : gMP} {N : gMN} {L : gML} {w : Int} {Q : Int → gMN → gML → Prop} (hI : Inv B P) (hN : Scr N L) (rw_ : rI w) (h : ∀ N' L', Scr N' L' → Q (vKey B P w) N' L') : wp_X7_key B P N L w Q := by
  have hB := hI.1
  have hR := hI.2.1.nr hB
  unfold wp_X7_key vKey at *
  refine s_X7_in rw_ (by decide) (by decide) (fun a b => ⟨fun _ => ?_, fun q => absurd (by decide) q⟩) (fun a => ⟨fun q => absurd rfl q, fun _ => ?_⟩)
  · rw [if_neg (fun q => q ⟨a, b⟩)] at h
    refine lp_inv (fun n k (s : (Int × Int) × gMN × gML) => wp_X7_key_20 B P _ Q n w s.1.1 s.1.2 k s.2.1 s.2.2) 10 (fun k s => 0 ≤ k ∧ Scr s.2.1 s.2.2 ∧ s.1.1 = (itI (kyF B P) 0 k (-6, -6)).1 ∧ s.1.2 = if (itI (kyF B P) 0 k (-6, -6)).2 < 0 then -1 else (itI (kyF B P) 0 k (-6, -6)).2) ?_ ?_ 0 ((-6, -1), N, L) (by omega) ⟨by omega, hN, by rw [itI_0 (by omega)], by rw [itI_0 (by omega)]; rfl⟩
    · rintro n ⟨s, N3, L3⟩ ⟨k0, hs, e1, e2⟩
      dsimp only at hs e1 e2
      have hr := ky_r (B := B) (N := P) 10 (by omega)
      show wp_X7_key_20 B P _ Q (n + 1) w s.1 s.2 10 N3 L3
      unfold wp_X7_key_20
      unfold ky at h
      generalize itI (kyF B P) 0 10 (-6, -6) = t at *
      refine ⟨by decide, fun _ => ⟨?_, fun z => ?_, fun z => ⟨rw_, fun y => ?_, fun y => ?_⟩⟩, fun q => absurd (Int.le_refl _) q⟩
      · rw [e1]
        rcases hr with hr | hr
        · rw [hr]; exact ⟨by decide, by decide⟩
        · exact ⟨by omega, by omega⟩
      · rcases hr with hr | hr
        · rw [hr] at h e1
          rw [e1]
          dsimp only at h ⊢
          split at h
          · exact h _ _ hs
          · exact h _ _ hs
        · omega
      · rcases hr with hr | hr
        · rw [hr] at e1; dsimp only at e1; omega
        · rw [if_neg (by omega)] at e2
          rw [if_neg y] at h; rw [e2]; exact h _ _ hs
      · rw [if_pos (Decidable.of_not_not y)] at h; rw [e1]; exact h _ _ hs
    · rintro n k ⟨s, N3, L3⟩ hlt ⟨k0, hs, e1, e2⟩ ih
      dsimp only at hs e1 e2
      have hr := ky_r (B := B) (N := P) k k0
      have hp := popc_r (vFw B P (ishl 1 k))
      have hk := hR k k0 hlt
      have next : itI (kyF B P) 0 (k + 1) (-6, -6) = kyF B P k (itI (kyF B P) 0 k (-6, -6)) := itI_s k0
      generalize itI (kyF B P) 0 k (-6, -6) = t at *
      have h2 : -1 ≤ s.2 ∧ s.2 ≤ 10 ∧ (s.2 < popc (vFw B P (ishl 1 k)) ↔ t.2 < popc (vFw B P (ishl 1 k))) := by
        rcases hr with hr | hr
        · rw [hr] at e2 ⊢; rw [if_pos (by decide)] at e2; dsimp only; omega
        · rw [if_neg (by omega)] at e2; omega
      show wp_X7_key_20 B P _ Q (n + 1) w s.1 s.2 k N3 L3
      unfold wp_X7_key_20
      refine ⟨⟨by omega, by omega⟩, fun q => by omega, fun _ => ⟨⟨k0, hlt⟩, ⟨by omega, by omega⟩, fun z => ih (s, N3, L3) ⟨by omega, hs, ?_⟩, fun z => s_X7_fallsBy hI.fi hs (S10_shl ⟨k0, hlt⟩) (fun N4 L4 hs4 => s_X7_bits (vFw_S hI.fi) ⟨⟨by omega, by omega⟩, ⟨by omega, by omega⟩, fun y => ?_, fun y => ?_⟩)⟩⟩
      · rw [next, show kyF B P k t = t from if_neg (fun q => by omega)]; exact ⟨e1, e2⟩
      · unfold wp_X7_key_62
        refine ⟨⟨by omega, by omega⟩, ⟨by omega, by omega⟩, fun x => ih (s, N4, L4) ⟨by omega, hs4, ?_⟩, fun x => absurd y x⟩
        rw [next, show kyF B P k t = t from if_neg (fun q => by omega)]; exact ⟨e1, e2⟩
      · unfold wp_X7_key_62
        refine ⟨⟨by omega, by omega⟩, ⟨by omega, by omega⟩, fun x => absurd x y, fun x => ih ((k, popc (vFw B P (ishl 1 k))), N4, L4) ⟨by omega, hs4, ?_⟩⟩
        rw [next, show kyF B P k t = (k, popc (vFw B P (ishl 1 k))) from if_pos ⟨by omega, by omega⟩]
        exact ⟨rfl, by dsimp only; rw [if_neg (by omega)]⟩
  · rw [if_pos a] at h; exact h _ _ hN
