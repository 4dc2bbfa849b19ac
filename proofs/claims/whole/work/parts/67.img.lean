/-! image, restore -/
def BZ (B : gMB) : Prop := Z10 B.2.2.1 ∧ Z10 B.2.2.2.1 ∧ Z10 B.2.2.2.2
def ImgR (f : Int → Int) (o : Int) (B : gMB) (N : gMN) (H : gMG) : Prop := (∀ j, 0 ≤ j → j < 10 → f (o + j) = B.2.2.1 j ∧ f (o + 10 + j) = B.2.2.2.1 j ∧ f (o + 20 + j) = B.2.2.2.2 j ∧ f (o + 30 + j) = N.1 j ∧ f (o + 40 + j) = N.2 j) ∧ (∀ j, 0 ≤ j → j < 16 → f (o + 50 + j) = H.2 j) ∧ f (o + 70) = B.1 ∧ f (o + 71) = B.2.1 ∧ f (o + 72) = H.1
theorem ImgR_fr {f f' : Int → Int} {o : Int} {B : gMB} {N : gMN} {H : gMG} (h : ImgR f o B N H) (e : ∀ j, o ≤ j → j < o + 80 → f' j = f j) : ImgR f' o B N H := by
  obtain ⟨h1, h2, h3, h4, h5⟩ := h
  refine ⟨fun j j0 j1 => ?_, fun j j0 j1 => by rw [e _ (by omega) (by omega)]; exact h2 j j0 j1, by rw [e _ (by omega) (by omega)]; exact h3, by rw [e _ (by omega) (by omega)]; exact h4, by rw [e _ (by omega) (by omega)]; exact h5⟩
  rw [e (o + j) (by omega) (by omega), e (o + 10 + j) (by omega) (by omega), e (o + 20 + j) (by omega) (by omega), e (o + 30 + j) (by omega) (by omega), e (o + 40 + j) (by omega) (by omega)]
  exact h1 j j0 j1
theorem s_X7_image {B : gMB} {P : gMP} {H : gMG} {I : gMI} {k : Int} {Q : Int → gMI → Prop} (hk : rI k) (h1 : 0 ≤ k → k ≤ 1 → ∀ f, ImgR f (80 * k) B P H → (∀ j, (j < 80 * k ∨ 80 * k + 80 ≤ j) → f j = I.1 j) → Q 1 (f, aset I.2 k 1)) (h0 : ¬ (0 ≤ k ∧ k ≤ 1) → Q (-2) I) : wp_X7_image B P H I k Q := by
  unfold wp_X7_image
  refine s_X7_in hk (by decide) (by decide) (fun k0 k1 => ⟨fun _ => ?_, fun q => absurd (by decide) q⟩) (fun q => ⟨fun z => absurd rfl z, fun _ => h0 q⟩)
  obtain ⟨o, eo⟩ : ∃ o, 80 * k = o := ⟨_, rfl⟩
  rw [eo] at h1 ⊢
  refine lp_inv (fun n i (f : Int → Int) => wp_X7_image_19 B P _ Q n k o i (f, I.2)) 10 (fun i f => 0 ≤ i ∧ (∀ j, 0 ≤ j → j < i → f (o + j) = B.2.2.1 j ∧ f (o + 10 + j) = B.2.2.2.1 j ∧ f (o + 20 + j) = B.2.2.2.2 j ∧ f (o + 30 + j) = P.1 j ∧ f (o + 40 + j) = P.2 j) ∧ ∀ j, (j < o ∨ o + 80 ≤ j) → f j = I.1 j) ?_ ?_ 0 I.1 (by omega) ⟨by omega, fun j _ _ => by omega, fun j _ => rfl⟩
  · rintro n f ⟨_, e1, e2⟩
    show wp_X7_image_19 _ _ _ _ (n + 1) _ _ _ _
    unfold wp_X7_image_19
    refine ⟨by decide, fun _ => ?_, fun q => absurd (Int.le_refl _) q⟩
    refine lp_inv (fun n i (f : Int → Int) => wp_X7_image_115 H _ Q n k o i (f, I.2)) 16 (fun i f => 0 ≤ i ∧ (∀ j, 0 ≤ j → j < 10 → f (o + j) = B.2.2.1 j ∧ f (o + 10 + j) = B.2.2.2.1 j ∧ f (o + 20 + j) = B.2.2.2.2 j ∧ f (o + 30 + j) = P.1 j ∧ f (o + 40 + j) = P.2 j) ∧ (∀ j, 0 ≤ j → j < i → f (o + 50 + j) = H.2 j) ∧ ∀ j, (j < o ∨ o + 80 ≤ j) → f j = I.1 j) ?_ ?_ 0 f (by omega) ⟨by omega, e1, fun j _ _ => by omega, e2⟩
    · rintro n f ⟨_, e1, e3, e2⟩
      show wp_X7_image_115 _ _ _ (n + 1) _ _ _ _
      unfold wp_X7_image_115
      refine ⟨by decide, fun _ => ⟨⟨by omega, by omega⟩, ⟨by omega, by omega⟩, ⟨by omega, by omega⟩, ⟨by omega, by omega⟩, h1 k0 k1 _ ⟨fun j j0 j1 => ?_, fun j j0 j1 => ?_, ?_, ?_, ?_⟩ (fun j hj => ?_)⟩, fun q => absurd (Int.le_refl _) q⟩
      · have := e1 j j0 j1
        rw [aset_n (show o + j ≠ o + 72 by omega), aset_n (show o + j ≠ o + 71 by omega), aset_n (show o + j ≠ o + 70 by omega), aset_n (show o + 10 + j ≠ o + 72 by omega), aset_n (show o + 10 + j ≠ o + 71 by omega), aset_n (show o + 10 + j ≠ o + 70 by omega), aset_n (show o + 20 + j ≠ o + 72 by omega), aset_n (show o + 20 + j ≠ o + 71 by omega), aset_n (show o + 20 + j ≠ o + 70 by omega), aset_n (show o + 30 + j ≠ o + 72 by omega), aset_n (show o + 30 + j ≠ o + 71 by omega), aset_n (show o + 30 + j ≠ o + 70 by omega), aset_n (show o + 40 + j ≠ o + 72 by omega), aset_n (show o + 40 + j ≠ o + 71 by omega), aset_n (show o + 40 + j ≠ o + 70 by omega)]
        exact this
      · rw [aset_n (by omega), aset_n (by omega), aset_n (by omega)]; exact e3 j j0 j1
      · rw [aset_n (by omega), aset_n (by omega), aset_s]
      · rw [aset_n (by omega), aset_s]
      · rw [aset_s]
      · rw [aset_n (by omega), aset_n (by omega), aset_n (by omega)]; exact e2 j hj
    · rintro n i f hlt ⟨i0, e1, e3, e2⟩ ih
      show wp_X7_image_115 _ _ _ (n + 1) _ _ _ _
      unfold wp_X7_image_115
      refine ⟨⟨by omega, by omega⟩, fun q => by omega, fun _ => ⟨⟨by omega, by omega⟩, ⟨by omega, by omega⟩, ih _ ⟨by omega, fun j j0 j1 => ?_, fun j j0 j1 => ?_, fun j hj => ?_⟩⟩⟩
      · have := e1 j j0 j1
        dsimp only
        rw [aset_n (show o + j ≠ o + 50 + i by omega), aset_n (show o + 10 + j ≠ o + 50 + i by omega), aset_n (show o + 20 + j ≠ o + 50 + i by omega), aset_n (show o + 30 + j ≠ o + 50 + i by omega), aset_n (show o + 40 + j ≠ o + 50 + i by omega)]
        exact this
      · by_cases q : j = i
        · subst q; exact aset_s
        · dsimp only
          rw [aset_n (by omega)]; exact e3 j j0 (by omega)
      · dsimp only
        rw [aset_n (by omega)]; exact e2 j hj
  · rintro n i f hlt ⟨i0, e1, e2⟩ ih
    show wp_X7_image_19 _ _ _ _ (n + 1) _ _ _ _
    unfold wp_X7_image_19
    refine ⟨⟨by omega, by omega⟩, fun q => by omega, fun _ => ⟨⟨by omega, by omega⟩, ⟨by omega, by omega⟩, ⟨by omega, by omega⟩, ⟨by omega, by omega⟩, ⟨by omega, by omega⟩, ⟨by omega, by omega⟩, ih _ ⟨by omega, fun j j0 j1 => ?_, fun j hj => ?_⟩⟩⟩
    · dsimp only
      by_cases q : j = i
      · subst q
        refine ⟨?_, ?_, ?_, ?_, ?_⟩
        · rw [aset_n (by omega), aset_n (by omega), aset_n (by omega), aset_n (by omega), aset_s]
        · rw [aset_n (by omega), aset_n (by omega), aset_n (by omega), aset_s]
        · rw [aset_n (by omega), aset_n (by omega), aset_s]
        · rw [aset_n (by omega), aset_s]
        · rw [aset_s]
      · have := e1 j j0 (by omega)
        refine ⟨?_, ?_, ?_, ?_, ?_⟩
        · rw [aset_n (by omega), aset_n (by omega), aset_n (by omega), aset_n (by omega), aset_n (by omega)]; exact this.1
        · rw [aset_n (by omega), aset_n (by omega), aset_n (by omega), aset_n (by omega), aset_n (by omega)]; exact this.2.1
        · rw [aset_n (by omega), aset_n (by omega), aset_n (by omega), aset_n (by omega), aset_n (by omega)]; exact this.2.2.1
        · rw [aset_n (by omega), aset_n (by omega), aset_n (by omega), aset_n (by omega), aset_n (by omega)]; exact this.2.2.2.1
        · rw [aset_n (by omega), aset_n (by omega), aset_n (by omega), aset_n (by omega), aset_n (by omega)]; exact this.2.2.2.2
    · dsimp only
      rw [aset_n (by omega), aset_n (by omega), aset_n (by omega), aset_n (by omega), aset_n (by omega)]; exact e2 j hj
theorem z10_ext {f g : Int → Int} (hf : Z10 f) (hg : Z10 g) (h : ∀ j, 0 ≤ j → j < 10 → f j = g j) : f = g := funext fun j => by
  by_cases q : 0 ≤ j ∧ j < 10
  · exact h j q.1 q.2
  · rw [hf j (by omega), hg j (by omega)]
theorem z10_set {f : Int → Int} {i v : Int} (hf : Z10 f) (h : 0 ≤ i ∧ i < 10) : Z10 (aset f i v) := fun j hj => by
  rw [aset_n (by omega)]; exact hf j hj
theorem s_X7_restore {B B' : gMB} {P P' : gMP} {H H' : gMG} {I : gMI} {k : Int} {Q : Int → gMB → gMP → gMG → Prop} (hk : rI k) (hb : BZ B) (hp : Z10 P.1 ∧ Z10 P.2) (hi : rI (I.2 k)) (hr : 0 ≤ k → k ≤ 1 → I.2 k ≠ 0 → ImgR I.1 (80 * k) B' P' H' ∧ BZ B' ∧ Z10 P'.1 ∧ Z10 P'.2) (h1 : 0 ≤ k → k ≤ 1 → I.2 k ≠ 0 → ∀ f, (∀ j, 0 ≤ j → j < 16 → f j = H'.2 j) → Q 1 B' P' (H'.1, f)) (h2 : 0 ≤ k → k ≤ 1 → I.2 k = 0 → Q (-3) B P H) (h0 : ¬ (0 ≤ k ∧ k ≤ 1) → Q (-2) B P H) : wp_X7_restore B P H I k Q := by
  unfold wp_X7_restore
  refine s_X7_in hk (by decide) (by decide) (fun k0 k1 => ⟨fun _ => ⟨⟨k0, by omega⟩, hi, fun z => ?_, fun z => h2 k0 k1 (Decidable.of_not_not z)⟩, fun q => absurd (by decide) q⟩) (fun q => ⟨fun z => absurd rfl z, fun _ => h0 q⟩)
  obtain ⟨⟨r1, r2, r3, r4, r5⟩, hb', hp'⟩ := hr k0 k1 z
  have h1 := h1 k0 k1 z
  obtain ⟨o, eo⟩ : ∃ o, 80 * k = o := ⟨_, rfl⟩
  rw [eo] at r1 r2 r3 r4 r5 ⊢
  refine lp_inv (fun n i (s : gMB × gMP) => wp_X7_restore_31 I _ Q n o i s.1 s.2 H) 10 (fun i s => 0 ≤ i ∧ BZ s.1 ∧ (Z10 s.2.1 ∧ Z10 s.2.2) ∧ ∀ j, 0 ≤ j → j < i → s.1.2.2.1 j = B'.2.2.1 j ∧ s.1.2.2.2.1 j = B'.2.2.2.1 j ∧ s.1.2.2.2.2 j = B'.2.2.2.2 j ∧ s.2.1 j = P'.1 j ∧ s.2.2 j = P'.2 j) ?_ ?_ 0 (B, P) (by omega) ⟨by omega, hb, hp, fun j _ _ => by omega⟩
  · rintro n ⟨B2, P2⟩ ⟨_, e1, e2, e3⟩
    dsimp only at e1 e2 e3
    show wp_X7_restore_31 _ _ _ (n + 1) _ _ _ _ _
    unfold wp_X7_restore_31
    refine ⟨by decide, fun _ => ?_, fun q => absurd (Int.le_refl _) q⟩
    have b1 : B2.2.2.1 = B'.2.2.1 := z10_ext e1.1 hb'.1 (fun j j0 j1 => (e3 j j0 j1).1)
    have b2 : B2.2.2.2.1 = B'.2.2.2.1 := z10_ext e1.2.1 hb'.2.1 (fun j j0 j1 => (e3 j j0 j1).2.1)
    have b3 : B2.2.2.2.2 = B'.2.2.2.2 := z10_ext e1.2.2 hb'.2.2 (fun j j0 j1 => (e3 j j0 j1).2.2.1)
    have b4 : P2.1 = P'.1 := z10_ext e2.1 hp'.1 (fun j j0 j1 => (e3 j j0 j1).2.2.2.1)
    have b5 : P2.2 = P'.2 := z10_ext e2.2 hp'.2 (fun j j0 j1 => (e3 j j0 j1).2.2.2.2)
    refine lp_inv (fun n i (f : Int → Int) => wp_X7_restore_127 I _ Q n o i B2 P2 (H.1, f)) 16 (fun i f => 0 ≤ i ∧ ∀ j, 0 ≤ j → j < i → f j = H'.2 j) ?_ ?_ 0 H.2 (by omega) ⟨by omega, fun j _ _ => by omega⟩
    · rintro n f ⟨_, e⟩
      show wp_X7_restore_127 _ _ _ (n + 1) _ _ _ _ _
      unfold wp_X7_restore_127
      refine ⟨by decide, fun _ => ⟨⟨by omega, by omega⟩, ⟨by omega, by omega⟩, ⟨by omega, by omega⟩, ?_⟩, fun q => absurd (Int.le_refl _) q⟩
      dsimp only
      rw [r3, r4, r5, b1, b2, b3, show P2 = (P2.1, P2.2) from rfl, b4, b5]
      exact h1 f e
    · rintro n i f hlt ⟨i0, e⟩ ih
      show wp_X7_restore_127 _ _ _ (n + 1) _ _ _ _ _
      unfold wp_X7_restore_127
      refine ⟨⟨by omega, by omega⟩, fun q => by omega, fun _ => ⟨⟨by omega, by omega⟩, ⟨by omega, by omega⟩, ih _ ⟨by omega, fun j j0 j1 => ?_⟩⟩⟩
      dsimp only
      by_cases q : j = i
      · subst q; rw [aset_s]; exact r2 j j0 hlt
      · rw [aset_n q]; exact e j j0 (by omega)
  · rintro n i ⟨B2, P2⟩ hlt ⟨i0, e1, e2, e3⟩ ih
    dsimp only at e1 e2 e3
    have hi := r1 i i0 hlt
    show wp_X7_restore_31 _ _ _ (n + 1) _ _ _ _ _
    unfold wp_X7_restore_31
    refine ⟨⟨by omega, by omega⟩, fun q => by omega, fun _ => ⟨⟨by omega, by omega⟩, ⟨by omega, by omega⟩, ⟨by omega, by omega⟩, ⟨by omega, by omega⟩, ⟨by omega, by omega⟩, ⟨by omega, by omega⟩, ih (_, _) ⟨by omega, ⟨z10_set e1.1 ⟨i0, hlt⟩, z10_set e1.2.1 ⟨i0, hlt⟩, z10_set e1.2.2 ⟨i0, hlt⟩⟩, ⟨z10_set e2.1 ⟨i0, hlt⟩, z10_set e2.2 ⟨i0, hlt⟩⟩, fun j j0 j1 => ?_⟩⟩⟩
    dsimp only
    by_cases q : j = i
    · subst q; rw [aset_s, aset_s, aset_s, aset_s, aset_s]; exact hi
    · rw [aset_n q, aset_n q, aset_n q, aset_n q, aset_n q]; exact e3 j j0 (by omega)
theorem s_gbecome {n : Int} {G Ga : gGG} {H : gMG} {Q : gGG → Prop} (hG : GR n Ga H) (h : ∀ G', GR n G' H → Q G') : wp_X4_become G Ga Q := by
  obtain ⟨e1, e2, e3⟩ := hG
  unfold wp_X4_become
  refine s_copy (by omega) (s_copy (by omega) (h _ ⟨e1, e2, fun k k0 k1 => ?_⟩))
  dsimp only
  rw [acpy_in k0 (by omega), acpy_in k0 (by omega)]
  exact e3 k k0 k1
