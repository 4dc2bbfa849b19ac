/-! who, look: the class grows -/
theorem s_grow {B : gMB} {S : gWS} {G : gGG} {H : gMG} (hS : SR B S) (hG : GR B.1 G H) (p : Nat) : ∀ {e : Nat} {N : gMN} {T : gWT} {U : gWU} {R : gRR} {b : Int} {A : RA} {Q : gWT → gWU → gRR → Prop}, Inv B N → TR B N T → S10 b → p ≤ 2 → A (phC B H) + 2 * p100 p ≤ 2000000 → RRel B H A R → (∀ T' U' R', TR B N T' → RRel B H (fun φ => A φ + WS B p N b φ) R' → Q T' U' R') → wp_X6_grow (p + 1 + e) S T U G R p b Q := by
  induction p with
  | zero =>
    intro e N T U R b A Q hI hT hb p2 hA hR h
    rw [show 0 + 1 + e = e + 1 by omega]
    show wpb_X6_grow (wp_X6_grow e) S T U G R ((0 : Nat) : Int) b Q
    unfold wpb_X6_grow
    have hp := p100_pos 0
    refine ⟨⟨by omega, by omega⟩, fun q => by omega, fun _ => ⟨fun _ => ⟨fun q => absurd rfl q, fun _ => ?_⟩, fun q => by omega⟩⟩
    refine s_areSo hI.1 hI.2.1 hT hG (fun so => ⟨fun q => absurd q (by decide), fun _ => ?_⟩) (fun so => ⟨fun _ => h T U R hT (RRel_no hR so), fun q => absurd rfl q⟩)
    exact s_add3 hI.1 hI.2.1 hT so hb (by omega) hR (fun R' hR' => h T U R' hT hR')
  | succ p ih =>
    intro e N T U R b A Q hI hT hb p2 hA hR h
    have hB := hI.1
    have hn := hB.1
    have hp := p100_pos p
    have hps := p100_s p
    rw [show p + 1 + 1 + e = (p + 1 + e) + 1 by omega]
    show wpb_X6_grow (wp_X6_grow (p + 1 + e)) S T U G R ((p + 1 : Nat) : Int) b Q
    unfold wpb_X6_grow
    refine ⟨⟨by omega, by omega⟩, fun q => by omega, fun _ => ⟨fun _ => ⟨fun _ => ?_, fun q => by omega⟩, fun q => by omega⟩⟩
    have nxt : ∀ g, 0 ≤ g → grA B p N b A g 10 = grA B p N b A (g + 1) 0 := fun g g0 => funext fun φ => by
      unfold grA
      rw [sm_s g0, sm_0 (lo := 0) (hi := 0) (by omega)]; omega
    have rest : ∀ g, 0 ≤ g → g < 10 → grA B p N b A g B.1 = grA B p N b A g 10 := fun g g0 g1 => funext fun φ => by
      unfold grA
      rw [sm_split (f := wtF B p N b φ g) (lo := 0) (mid := B.1) (hi := 10) (by omega) (by omega), sm_congr (f := wtF B p N b φ g) (g := fun _ => 0) (lo := B.1) (hi := 10) (fun c c0 _ => if_neg (fun q => by have := shq_col hB g0 g1 q; omega)), sm_zero]; omega
    refine lp_inv (fun n g (x : gWT × gWU × gRR) => wp_X6_grow_51 (wp_X6_grow (p + 1 + e)) S G _ Q n ((p + 1 : Nat) : Int) b S.1 g x.1 x.2.1 x.2.2) 10 (fun g x => 0 ≤ g ∧ TR B N x.1 ∧ RRel B H (grA B p N b A g 0) x.2.2) ?_ ?_ 0 (T, U, R) (by omega) ⟨by omega, hT, by
      rw [show grA B p N b A 0 0 = A from funext fun φ => by unfold grA; rw [sm_0 (by omega), sm_0 (by omega)]; omega]; exact hR⟩
    · rintro n ⟨T3, U3, R3⟩ ⟨_, hT3, hR3⟩
      show wp_X6_grow_51 (wp_X6_grow (p + 1 + e)) S G _ Q (n + 1) _ b S.1 10 T3 U3 R3
      unfold wp_X6_grow_51
      refine ⟨by decide, fun _ => h T3 U3 R3 hT3 ?_, fun q => absurd (Int.le_refl _) q⟩
      rw [show (fun φ => A φ + WS B (p + 1) N b φ) = grA B p N b A 10 0 from funext fun φ => by
        unfold grA
        rw [sm_0 (f := wtF B p N b φ 10) (lo := 0) (hi := 0) (by omega), Int.add_zero]; rfl]
      exact hR3
    · rintro n g ⟨T3, U3, R3⟩ hlt ⟨g0, hT3, hR3⟩ ih2
      dsimp only at hT3 hR3
      show wp_X6_grow_51 (wp_X6_grow (p + 1 + e)) S G _ Q (n + 1) _ b S.1 g T3 U3 R3
      unfold wp_X6_grow_51
      refine ⟨⟨by omega, by omega⟩, fun q => by omega, fun _ => s_isFree hB hS hT3 g0 hlt (fun f1 f2 => ⟨fun q => absurd q (by decide), fun _ => ?_⟩) (fun f => ⟨fun _ => ih2 (T3, U3, R3) ⟨by omega, hT3, ?_⟩, fun q => absurd rfl q⟩)⟩
      · rw [hS.1]
        refine lp_inv (fun n2 c (x : gWT × gWU × gRR) => wp_X6_grow_70 (wp_X6_grow (p + 1 + e)) S G _ Q n2 ((p + 1 : Nat) : Int) b B.1 g c x.1 x.2.1 x.2.2) B.1 (fun c x => 0 ≤ c ∧ TR B N x.1 ∧ RRel B H (grA B p N b A g c) x.2.2) ?_ ?_ 0 (T3, U3, R3) (by omega) ⟨by omega, hT3, hR3⟩
        · rintro n2 ⟨T4, U4, R4⟩ ⟨_, hT4, hR4⟩
          show wp_X6_grow_70 (wp_X6_grow (p + 1 + e)) S G _ Q (n2 + 1) _ b B.1 g B.1 T4 U4 R4
          unfold wp_X6_grow_70
          refine ⟨⟨by omega, by omega⟩, ⟨by omega, by omega⟩, fun _ => ?_, fun q => absurd (Int.le_refl _) q⟩
          have := ih2 (T4, U4, R4) ⟨by omega, hT4, by rw [← nxt g g0, ← rest g g0 hlt]; exact hR4⟩
          rw [hS.1] at this
          exact this
        · rintro n2 c ⟨T4, U4, R4⟩ hc ⟨c0, hT4, hR4⟩ ih3
          dsimp only at hT4 hR4
          have hpr := mput_r B N g c
          have step : grA B p N b A g (c + 1) = fun φ => grA B p N b A g c φ + wtF B p N b φ g c := funext fun φ => by
            unfold grA
            rw [sm_s (f := wtF B p N b φ g) c0]; omega
          show wp_X6_grow_70 (wp_X6_grow (p + 1 + e)) S G _ Q (n2 + 1) _ b B.1 g c T4 U4 R4
          unfold wp_X6_grow_70
          refine ⟨⟨by omega, by omega⟩, ⟨by omega, by omega⟩, fun q => by omega, fun _ => s_put hI hS hT4 g0 hlt ⟨c0, by omega⟩ (fun T5 U5 hT5 => ⟨⟨by omega, by omega⟩, fun z => ?_, fun z => ?_⟩)⟩
          · rw [mput_n z] at hT5
            refine ih3 (T5, U5, R4) ⟨by omega, hT5, ?_⟩
            rw [step, show (fun φ => grA B p N b A g c φ + wtF B p N b φ g c) = grA B p N b A g c from funext fun φ => by
              rw [show wtF B p N b φ g c = 0 from if_neg z, Int.add_zero]]
            exact hR4
          · have z := Decidable.of_not_not z
            have hI5 := inv_put (c := c) hI g0 hlt c0
            have hr := grA_r (B := B) (H := H) (p := p) (N := N) (b := b) (A := A) g0 hlt c0 (show c ≤ 10 by omega)
            rw [show ((p + 1 : Nat) : Int) - 1 = (p : Int) by omega]
            refine ih (e := e) hI5 hT5 (S10_or hb (S10_shl ⟨g0, hlt⟩)) (by omega) (by omega) hR4 (fun T6 U6 R6 hT6 hR6 => s_unput hI hS g0 hlt c0 z hT6 (fun T7 hT7 => ih3 (T7, U6, R6) ⟨by omega, hT7, ?_⟩))
            rw [step, show (fun φ => grA B p N b A g c φ + wtF B p N b φ g c) = fun φ => grA B p N b A g c φ + WS B p (mput B N g c).2 (ior b (ishl 1 g)) φ from funext fun φ => by
              rw [show wtF B p N b φ g c = WS B p (mput B N g c).2 (ior b (ishl 1 g)) φ from if_pos z]]
            exact hR6
      · rw [← nxt g g0, show grA B p N b A g 10 = grA B p N b A g 0 from funext fun φ => by
          unfold grA
          rw [sm_congr (f := wtF B p N b φ g) (g := fun _ => 0) (lo := 0) (hi := 10) (fun c _ _ => if_neg (fun q => by
            obtain ⟨m1, m2, _, _⟩ := mput_0 q
            rcases f with f | f
            · rw [f] at m1; exact absurd m1 (by decide)
            · omega)), sm_zero, sm_0 (lo := 0) (hi := 0) (by omega)]]
        exact hR3
