/-! THE REFERENCE's put and take -/
theorem aset_aset {f : Int → Int} {i v w : Int} : aset (aset f i v) i w = aset f i w := by
  funext j
  by_cases e : j = i
  · subst e; rw [aset_s, aset_s]
  · rw [aset_n e, aset_n e, aset_n e]
theorem s_X7_isOver {B : gMB} {N : gMN} {g : Int} {Q : Int → Prop} (hB : BOk B) (hR : NR B N) (hg : 0 ≤ g ∧ g < 10) (h1 : 0 ≤ N.1 g → 60466176 * B.2.2.2.2 g < ldA B N g → Q 1) (h0 : ¬ (0 ≤ N.1 g ∧ 60466176 * B.2.2.2.2 g < ldA B N g) → Q 0) : wp_X7_isOver B N (ldA B N) g Q := by
  have hb := (hB.2.2 g hg.1 hg.2).2.2.1
  have hl := ldA_r (N := N) hB hg.1 hg.2
  unfold wp_X7_isOver
  refine s_X7_isIn hR hg (fun a => ⟨fun q => absurd q (by decide), fun _ => ⟨hg, ⟨by omega, by omega⟩, ⟨by omega, by omega⟩, ⟨by omega, by omega⟩, fun b => h0 (fun q => by omega), fun b => h1 a (by omega)⟩⟩) (fun a => ⟨fun _ => h0 (fun q => by omega), fun q => absurd rfl q⟩)
set_option maxHeartbeats 1000000 in
theorem s_X7_put {B : gMB} {N : gMN} {L : gML} {g c : Int} {Q : Int → gMN → gML → Prop} (hI : Inv B N) (hL : Z10 L) (g0 : 0 ≤ g) (g1 : g < 10) (hc : 0 ≤ c ∧ c ≤ 1000) (h : ∀ L', Z10 L' → Q (mput B N g c).1 (mput B N g c).2 L') : wp_X7_put B N L g c Q := by
  obtain ⟨hB, hN, hD, hSp, hO⟩ := id hI
  have hw := (hB.2.2 g g0 g1).1
  have hn := hB.1
  have hR := hN.nr hB
  unfold wp_X7_put
  refine s_X7_has hB.2.1 ⟨g0, g1⟩ (fun a => ⟨fun q => absurd q (by decide), fun _ => ?_⟩) (fun a => ⟨fun _ => ?_, fun q => absurd rfl q⟩)
  · refine s_X7_isIn hR ⟨g0, g1⟩ (fun b => ⟨fun q => absurd q (by decide), fun _ => ?_⟩) (fun b => ⟨fun _ => ⟨⟨g0, g1⟩, ⟨by omega, by omega⟩, ⟨by omega, by omega⟩, fun d => ?_, fun d => ?_⟩, fun q => absurd rfl q⟩)
    · rw [show mput B N g c = (1, N) from if_pos (Or.inr b)] at h
      exact h L hL
    · have na : ¬ (sb B.2.1 g = false ∨ 0 ≤ N.1 g) := fun q => by
        rcases q with q | q
        · rw [a] at q; exact absurd q (by decide)
        · omega
      obtain ⟨p0, p9, q3, q4, q5, q6, q7⟩ := put_fits hB hN hD hSp g0 g1 b a hc.1 d
      have e0 : mput B N g c = if ¬ stn B (mset N g (prow B N g c) c) g then (3, N) else if ovr B (mset N g (prow B N g c) c) = 0 then (0, mset N g (prow B N g c) c) else (4, N) := (if_neg na).trans (if_neg (by omega))
      rw [e0] at h
      have hR' := q3.nr hB
      have back : (aset (mset N g (prow B N g c) c).1 g (-6), aset (mset N g (prow B N g c) c).2 g (-6)) = N := mset_back (hN.out g0 g1 b)
      refine lp_inv (fun m i (r : Int) => wp_X7_put_43 B _ Q m g c r i N L) (c + B.2.2.1 g) (fun i r => c ≤ i ∧ r = itI (rowF B N) c i 0) ?_ ?_ c 0 (by omega) ⟨by omega, (itI_0 (by omega)).symm⟩
      · rintro m r ⟨hi, rfl⟩
        show wp_X7_put_43 _ _ _ (m + 1) _ _ _ _ _ _
        unfold wp_X7_put_43
        refine ⟨⟨g0, g1⟩, ⟨by omega, by omega⟩, ⟨by omega, by omega⟩, fun _ => ⟨⟨g0, g1⟩, ?_⟩, fun q => absurd (Int.le_refl _) q⟩
        show wp_X7_stands B (mset N g (prow B N g c) c) g _
        refine s_X7_stands hR' ⟨g0, g1⟩ (fun st => ⟨fun q => absurd q (by decide), fun _ => ?_⟩) (fun st => ⟨fun _ => ?_, fun q => absurd rfl q⟩)
        · show wp_X7_put_110 B Q g 0 (mset N g (prow B N g c) c) L
          rw [if_neg (fun z => z st)] at h
          unfold wp_X7_put_110
          refine s_X7_layLoads hB hR' hL ?_
          have hz := ldA_z (N := mset N g (prow B N g c) c) hB
          refine lp_inv (fun m i (w : Int) => wp_X7_put_119 B _ Q m g w i (mset N g (prow B N g c) c) (ldA B (mset N g (prow B N g c) c))) 10 (fun i w => 0 ≤ i ∧ (w = 0 ∨ w = 4) ∧ (w = 0 → ∀ q, 0 ≤ q → q < i → 0 ≤ (mset N g (prow B N g c) c).1 q → ldA B (mset N g (prow B N g c) c) q ≤ 60466176 * B.2.2.2.2 q) ∧ (w = 4 → ovr B (mset N g (prow B N g c) c) = 4)) ?_ ?_ 0 0 (by omega) ⟨by omega, Or.inl rfl, fun _ q _ _ => by omega, fun q => by omega⟩
          · rintro m2 w ⟨i0, hw0, hw1, hw4⟩
            show wp_X7_put_119 _ _ _ (m2 + 1) _ _ _ _ _
            unfold wp_X7_put_119
            refine ⟨by decide, fun _ => ?_, fun q => absurd (Int.le_refl 10) q⟩
            show wp_X7_put_153 Q g w _ _
            unfold wp_X7_put_153
            refine ⟨⟨by omega, by omega⟩, fun z => ?_, fun z => s_X7_take ⟨g0, g1⟩ ?_⟩
            · have w0 : w = 0 := by omega
              subst w0
              rcases ovr_is B (mset N g (prow B N g c) c) with ⟨y, _⟩ | ⟨_, q, y0, y1, y2, y3⟩
              · rw [if_pos y] at h; exact h _ hz
              · have := hw1 rfl q y0 y1 y2; omega
            · have w4 : w = 4 := by omega
              subst w4
              have := hw4 rfl
              rw [if_neg (by omega)] at h
              rw [back]; exact h _ hz
          · rintro m2 i w hlt ⟨i0, hw0, hw1, hw4⟩ ih
            show wp_X7_put_119 _ _ _ (m2 + 1) _ _ _ _ _
            unfold wp_X7_put_119
            refine ⟨⟨by omega, by omega⟩, fun q => by omega, fun _ => ⟨⟨by omega, by omega⟩, fun z => ?_, fun z => ?_⟩⟩
            · show wp_X7_put_153 Q g w _ _
              unfold wp_X7_put_153
              have w4 : w = 4 := by omega
              subst w4
              have := hw4 rfl
              rw [if_neg (by omega)] at h
              refine ⟨by decide, fun z => by omega, fun z => s_X7_take ⟨g0, g1⟩ ?_⟩
              rw [back]; exact h _ hz
            · have w0 : w = 0 := by omega
              refine s_X7_isOver hB hR' ⟨i0, hlt⟩ (fun y1 y2 => ⟨fun q => absurd q (by decide), fun _ => ih 4 ⟨by omega, Or.inr rfl, fun q => by omega, fun _ => ?_⟩⟩) (fun y => ⟨fun _ => ih 0 ⟨by omega, Or.inl rfl, fun _ q q0 q1 q2 => ?_, fun q => by omega⟩, fun q => absurd rfl q⟩)
              · rcases ovr_is B (mset N g (prow B N g c) c) with ⟨_, x⟩ | ⟨x, _⟩
                · have := x i i0 hlt y1; omega
                · exact x
              · by_cases eq : q = i
                · subst eq; omega
                · exact hw1 w0 q q0 (by omega) q2
        · show wp_X7_put_110 B Q g 3 (mset N g (prow B N g c) c) L
          rw [if_pos st] at h
          unfold wp_X7_put_110
          refine s_X7_layLoads hB hR' hL ?_
          have hz := ldA_z (N := mset N g (prow B N g c) c) hB
          refine ⟨1, ?_⟩
          unfold wp_X7_put_119
          refine ⟨by decide, fun q => by omega, fun _ => ⟨by decide, fun _ => ?_, fun q => absurd (by decide) q⟩⟩
          show wp_X7_put_153 Q g 3 _ _
          unfold wp_X7_put_153
          refine ⟨by decide, fun z => by omega, fun z => s_X7_take ⟨g0, g1⟩ ?_⟩
          rw [back]; exact h _ hz
      · rintro m i r hlt ⟨hi, rfl⟩ ih
        have hr0 : 0 ≤ itI (rowF B N) c i 0 ∧ itI (rowF B N) c i 0 ≤ 11 := itI_ind (P := fun _ a => 0 ≤ a ∧ a ≤ 11) hi ⟨by omega, by omega⟩ (fun k a _ _ h3 => by
          have := hgt_r (c := k) hR
          unfold rowF; split <;> omega)
        have hh := hgt_r (c := i) hR
        show wp_X7_put_43 _ _ _ (m + 1) _ _ _ _ _ _
        unfold wp_X7_put_43
        refine ⟨⟨g0, g1⟩, ⟨by omega, by omega⟩, ⟨by omega, by omega⟩, fun q => by omega, fun _ => ?_⟩
        refine s_X7_heightOf hR ⟨by omega, by omega⟩ ⟨⟨by omega, by omega⟩, ⟨by omega, by omega⟩, fun z => ih _ ⟨by omega, ?_⟩, fun z => s_X7_heightOf hR ⟨by omega, by omega⟩ (ih _ ⟨by omega, ?_⟩)⟩
        · rw [itI_s hi]; exact (if_neg (by omega)).symm
        · rw [itI_s hi]; exact (if_pos (by omega)).symm
    · rw [show mput B N g c = (2, N) from (if_neg (fun q => by
        rcases q with q | q
        · rw [a] at q; exact absurd q (by decide)
        · omega)).trans (if_pos (by omega))] at h
      exact h L hL
  · rw [show mput B N g c = (1, N) from if_pos (Or.inl a)] at h
    exact h L hL
theorem s_X7_whyNotTake {B : gMB} {N : gMN} {g : Int} {Q : Int → Prop} (hB : BOk B) (hR : NR B N) (g0 : 0 ≤ g) (g1 : g < 10) (h : Q (mtake B N g).1) : wp_X7_whyNotTake B N g Q := by
  obtain ⟨r1, r2, r3⟩ := hR g g0 g1
  unfold wp_X7_whyNotTake
  refine s_X7_isIn hR ⟨g0, g1⟩ (fun a => ⟨fun _ => ⟨⟨g0, g1⟩, ?_⟩, fun q => absurd (by decide) q⟩) (fun a => ⟨fun q => absurd rfl q, fun _ => ?_⟩)
  · refine lp_inv (fun m i (w : Int) => wp_X7_whyNotTake_19 B N _ Q m g w i) (N.2 g + B.2.2.1 g) (fun i w => N.2 g ≤ i ∧ w = itI (cvF B N g) (N.2 g) i 0 ∧ (w = 0 ∨ w = 1)) ?_ ?_ (N.2 g) 0 (by omega) ⟨by omega, (itI_0 (by omega)).symm, Or.inl rfl⟩
    · rintro m w ⟨hi, e, hw⟩
      show wp_X7_whyNotTake_19 _ _ _ _ (m + 1) _ _ _
      unfold wp_X7_whyNotTake_19
      have e : w = cvr B N g := e
      refine ⟨⟨g0, g1⟩, ⟨by omega, by omega⟩, ⟨by omega, by omega⟩, fun _ => ⟨⟨by omega, by omega⟩, fun z => ?_, fun z => ?_⟩, fun q => absurd (Int.le_refl _) q⟩
      · rw [show mtake B N g = (0, mset N g (-6) (-6)) from (if_neg (by omega)).trans (if_pos (by omega))] at h
        exact h
      · rw [show mtake B N g = (5, N) from (if_neg (by omega)).trans (if_neg (by omega))] at h
        exact h
    · rintro m i w hlt ⟨hi, e, hw⟩ ih
      show wp_X7_whyNotTake_19 _ _ _ _ (m + 1) _ _ _
      unfold wp_X7_whyNotTake_19
      refine ⟨⟨g0, g1⟩, ⟨by omega, by omega⟩, ⟨by omega, by omega⟩, fun q => by omega, fun _ => ⟨⟨by omega, by omega⟩, fun z => ?_, fun z => ?_⟩⟩
      · refine ih 1 ⟨by omega, ?_, Or.inr rfl⟩
        rw [itI_s hi, ← e]; exact (if_neg z).symm
      · have z : w = 0 := Decidable.of_not_not z
        refine s_X7_whose hR ⟨by omega, by omega⟩ ⟨by omega, by omega⟩ ?_
        have hw := @who_rng B N (N.1 g + 1) i
        refine ⟨⟨by omega, by omega⟩, fun y => ih 0 ⟨by omega, ?_, Or.inl rfl⟩, fun y => ih 1 ⟨by omega, ?_, Or.inr rfl⟩⟩
        · rw [itI_s hi, ← e]; exact ((if_pos z).trans (if_pos y)).symm
        · rw [itI_s hi, ← e]; exact ((if_pos z).trans (if_neg y)).symm
  · rw [show mtake B N g = (1, N) from if_pos a] at h
    exact h
theorem mtake_0 {B : gMB} {N : gMN} {g : Int} (h : (mtake B N g).1 = 0) : (mtake B N g).2 = mset N g (-6) (-6) := by
  unfold mtake at h ⊢
  split
  · rename_i a; rw [if_pos a] at h; simp at h
  · rename_i a
    rw [if_neg a] at h
    split
    · rfl
    · rename_i b; rw [if_neg b] at h; simp at h
theorem mtake_n {B : gMB} {N : gMN} {g : Int} (h : (mtake B N g).1 ≠ 0) : (mtake B N g).2 = N := by
  unfold mtake at h ⊢
  split
  · rfl
  · rename_i a
    rw [if_neg a] at h
    split
    · rename_i b; rw [if_pos b] at h; exact absurd rfl h
    · rfl
theorem mput_r (B : gMB) (N : gMN) (g c : Int) : 0 ≤ (mput B N g c).1 ∧ (mput B N g c).1 ≤ 4 := by
  unfold mput
  split
  · exact ⟨by simp, by simp⟩
  · split
    · exact ⟨by simp, by simp⟩
    · split
      · exact ⟨by simp, by simp⟩
      · split <;> exact ⟨by simp, by simp⟩
theorem mtake_r (B : gMB) (N : gMN) (g : Int) : 0 ≤ (mtake B N g).1 ∧ (mtake B N g).1 ≤ 5 := by
  unfold mtake
  split
  · exact ⟨by simp, by simp⟩
  · split <;> exact ⟨by simp, by simp⟩
theorem mput_n {B : gMB} {N : gMN} {g c : Int} (h : (mput B N g c).1 ≠ 0) : (mput B N g c).2 = N := by
  unfold mput at h ⊢
  split
  · rfl
  · rename_i a
    rw [if_neg a] at h
    split
    · rfl
    · rename_i b
      rw [if_neg b] at h
      split
      · rfl
      · rename_i d
        rw [if_neg d] at h
        split
        · rename_i f; rw [if_pos f] at h; exact absurd rfl h
        · rfl
theorem mput_0 {B : gMB} {N : gMN} {g c : Int} (h : (mput B N g c).1 = 0) : sb B.2.1 g = true ∧ N.1 g < 0 ∧ c + B.2.2.1 g ≤ B.1 ∧ (mput B N g c).2 = mset N g (prow B N g c) c := by
  unfold mput at h ⊢
  split
  · rename_i a; rw [if_pos a] at h; simp at h
  · rename_i a
    rw [if_neg a] at h
    split
    · rename_i b; rw [if_pos b] at h; simp at h
    · rename_i b
      rw [if_neg b] at h
      split
      · rename_i d; rw [if_pos d] at h; simp at h
      · rename_i d
        rw [if_neg d] at h
        split
        · refine ⟨?_, by omega, by omega, rfl⟩
          cases q : sb B.2.1 g
          · exact absurd (Or.inl q) a
          · rfl
        · rename_i f; rw [if_neg f] at h; simp at h
