/-! X5_liftAll -/
abbrev rm_X5_liftAll : Room := { frames := 3, cells := 0, slots := 0, locals := 69 }
theorem sg_X5_liftAll : yX5_liftAll.cls ≠ "java/lang/invoke/MethodHandle" ∧ yX5_liftAll.cls ≠ "java/lang/invoke/VarHandle" ∧ (parseMethodDescriptor yX5_liftAll.desc).map (fun d => d.parameters.length) = some 1 := by decide +kernel
def rp_X5_liftAll (cI cJ cZ : ClassId) (qh : Nat → Nat) (S_h : gWS) (U_h : gWU) (Q : gWT → Prop) : Option Value → va_W → Prop := fun v w1 => ∃ (T_h : gWT), v = none ∧ w1 = (wdW cI cJ cZ qh S_h T_h U_h) ∧ Q T_h
def wp_X5_liftAll_2 (S_h : gWS) (K_27 : gWT → Prop)  (Q : gWT → Prop) : Nat → Int → Int → gWT → Prop
  | 0, _, _, _ => False
  | n2 + 1, x1, x2, T_h =>
    rI x2 ∧ ((10 ≤ x2 → K_27 T_h) ∧ (¬ (10 ≤ x2) → wp_X6_hasBit x1 x2 (fun (r10 : Int) => ((r10 = 0 → wp_X5_liftAll_2 S_h K_27 Q n2 x1 (x2 + 1) T_h) ∧ (¬ (r10 = 0) → wp_X5_lift S_h T_h x2 (fun (T_h_18 : gWT) => wp_X5_liftAll_2 S_h K_27 Q n2 x1 (x2 + 1) T_h_18))))))
def wp_X5_liftAll (S_h : gWS) (T_h : gWT) (x1 : Int) (Q : gWT → Prop) : Prop :=
    ∃ m2, wp_X5_liftAll_2 S_h (fun (T_h : gWT) => Q T_h) Q m2 x1 0 T_h
set_option maxHeartbeats 4000000 in
set_option maxRecDepth 20000 in
theorem w_X5_liftAll_2 {l : Launch} {D : va_G} {cI cJ cZ : ClassId} {A : Nat → Prop} {K : KT} {qh : Nat → Nat} {S_h : gWS} {U_h : gWU} {Q : gWT → Prop} {K_27 : gWT → Prop} (C : KC cX5_liftAll yX5_liftAll.cls wsX5_liftAll rm_X5_liftAll 3 D (kT cI cJ cZ) A l false (rp_X5_liftAll cI cJ cZ qh S_h U_h Q) 0 0 K) : ∀ (n : Nat) (x1 : Int) (x2 : Int) (T_h : gWT), wp_X5_liftAll_2 S_h K_27 Q n x1 x2 T_h → (∀ (T_h : gWT), K_27 T_h → K 0 0 27 [] [] ((wdW cI cJ cZ qh S_h T_h U_h))) → K 0 0 2 [(0, .ref (qh 0)), (1, .int (iI x1)), (2, .int (iI x2))] [] ((wdW cI cJ cZ qh S_h T_h U_h)) := by
  intro n
  induction n with
  | zero => intro x1 x2 T_h h; exact h.elim
  | succ n ih =>
    intro x1 x2 T_h h hK_27
    refine k_iload_n C dX5_liftAll_2 2 rfl rfl 3 rfl ?_
    refine k_bipush C dX5_liftAll_3 (by decide) 5 rfl ?_
    obtain ⟨hr5a, h⟩ := h
    obtain ⟨ht, hf⟩ := h
    refine k_icmp_ge C dX5_liftAll_5 ⟨hr5a, (by decide)⟩ 27 8 (by decide) rfl (fun hc5 => ?_) (fun hc5 => ?_)
    · have h := ht hc5; clear ht hf
      refine k_lv C [] [] rfl ?_
      exact hK_27 T_h h
    · have h := hf hc5; clear ht hf
      refine k_iload_n C dX5_liftAll_8 1 rfl rfl 9 rfl ?_
      refine k_iload_n C dX5_liftAll_9 2 rfl rfl 10 rfl ?_
      have hM := c_X6_hasBit (l := l) (D := D) (cI := cI) (cJ := cJ) (cZ := cZ) x1 x2 _ h
      refine k_callNS C dX5_liftAll_10 hM gX5_liftAll_X6_hasBit_n59 (List.mem_of_getElem? (i := 32) rfl) (List.mem_of_getElem? (i := 2) rfl) rfl sg_X6_hasBit (List.mem_of_getElem? (i := 1) rfl) rfl (Nat.le_of_ble_eq_true rfl) ⟨⟨rfl, rfl⟩, by decide, by decide⟩ ⟨Nat.le_refl 0, Nat.le_refl 0⟩ [] [0, 1, 2, 3, 4, 5, 6, 7, 8] rfl rfl rfl rfl (by decide) 0 0 ⟨rfl, rfl⟩ 13 rfl (fun v w1 hq10 => ?_)
      obtain ⟨r10, rfl, rfl, hb10, h⟩ := hq10
      refine k_perm C [0, 1, 2, 3, 4, 5, 6, 7, 8] [.int (iI r10)] ((wdW cI cJ cZ qh S_h T_h U_h)) rfl rfl rfl ?_
      obtain ⟨ht, hf⟩ := h
      refine k_if_eq C dX5_liftAll_13 (by rcases hb10 with rfl | rfl <;> decide) 21 16 (by decide) rfl (fun hc13 => ?_) (fun hc13 => ?_)
      · have h := ht hc13; clear ht hf
        refine k_iinc (j := 2) C dX5_liftAll_21 rfl (by decide) [(2, .int (iI (x2 + 1))), (0, .ref (qh 0)), (1, .int (iI x1))] rfl 24 rfl ?_
        refine k_goto C dX5_liftAll_24 2 (by decide) ?_
        refine k_lv C [1, 2, 0] [(0, .ref (qh 0)), (1, .int (iI x1)), (2, .int (iI (x2 + 1)))] rfl ?_
        exact ih x1 (x2 + 1) T_h h hK_27
      · have h := hf hc13; clear ht hf
        refine k_aload_n C dX5_liftAll_16 0 rfl rfl 17 rfl ?_
        refine k_iload_n C dX5_liftAll_17 2 rfl rfl 18 rfl ?_
        have hM := c_X5_lift (l := l) (D := D) (cI := cI) (cJ := cJ) (cZ := cZ) qh S_h T_h U_h x2 _ h
        refine k_callV C dX5_liftAll_18 hM gX5_liftAll_X5_lift rfl sg_X5_lift 5 rfl rfl rfl (Nat.le_of_ble_eq_true rfl) ⟨⟨rfl, rfl⟩, by decide, by decide⟩ ⟨Nat.le_refl 0, Nat.le_refl 0⟩ [0, 1, 2, 3, 4, 5, 6, 7, 8] [] rfl rfl rfl rfl (by decide) 0 0 ⟨rfl, rfl⟩ 21 rfl (fun v w1 hq18 => ?_)
        obtain ⟨T_h_18, rfl, rfl, h⟩ := hq18
        refine k_perm C [0, 1, 2, 3, 4, 5, 6, 7, 8] [] ((wdW cI cJ cZ qh S_h T_h_18 U_h)) rfl rfl rfl ?_
        refine k_iinc (j := 2) C dX5_liftAll_21 rfl (by decide) [(2, .int (iI (x2 + 1))), (0, .ref (qh 0)), (1, .int (iI x1))] rfl 24 rfl ?_
        refine k_goto C dX5_liftAll_24 2 (by decide) ?_
        refine k_lv C [1, 2, 0] [(0, .ref (qh 0)), (1, .int (iI x1)), (2, .int (iI (x2 + 1)))] rfl ?_
        exact ih x1 (x2 + 1) T_h_18 h hK_27
set_option maxHeartbeats 4000000 in
set_option maxRecDepth 20000 in
theorem c_X5_liftAll {l : Launch} {D : va_G} {cI cJ cZ : ClassId} (qh : Nat → Nat) (S_h : gWS) (T_h : gWT) (U_h : gWU) (x1 : Int) (Q : gWT → Prop) (h : wp_X5_liftAll S_h T_h x1 Q) : KM l D (kT cI cJ cZ) 0 0 yX5_liftAll wsX5_liftAll rm_X5_liftAll [.ref (qh 0), .int (iI x1)] ((wdW cI cJ cZ qh S_h T_h U_h)) (rp_X5_liftAll cI cJ cZ qh S_h U_h Q) := by
  refine KM_intro (lv := [(0, .ref (qh 0)), (1, .int (iI x1))]) false rfl (by decide) (Nat.le_of_ble_eq_true rfl) rfl (fun h => absurd h (by decide)) (fun v ws hq => by obtain ⟨T_h, rfl, rfl, _⟩ := hq; exact Or.inl ⟨rfl, rfl⟩) (fun A K C => ?_)
  refine k_iconst C dX5_liftAll_0 1 rfl ?_
  refine k_istore_n C dX5_liftAll_1 rfl (by decide) [(2, .int (iI 0)), (0, .ref (qh 0)), (1, .int (iI x1))] rfl 2 rfl ?_
  refine k_lv C [1, 2, 0] [(0, .ref (qh 0)), (1, .int (iI x1)), (2, .int (iI 0))] rfl ?_
  obtain ⟨m2, h⟩ := h
  refine w_X5_liftAll_2 C m2 x1 0 T_h h (fun T_h h => ?_)
  · exact k_vret C dX5_liftAll_27 ⟨T_h, rfl, rfl, h⟩

/-! X5_strainLower -/
abbrev rm_X5_strainLower : Room := { frames := 1, cells := 0, slots := 0, locals := 21 }
theorem sg_X5_strainLower : yX5_strainLower.cls ≠ "java/lang/invoke/MethodHandle" ∧ yX5_strainLower.cls ≠ "java/lang/invoke/VarHandle" ∧ (parseMethodDescriptor yX5_strainLower.desc).map (fun d => d.parameters.length) = some 1 := by decide +kernel
theorem hin_X5_strainLower_5 : ∀ w ∈ wsX50, w ∈ wsX5_strainLower := fun _ h => List.mem_cons_of_mem _ (List.mem_append_right _ h)
def rp_X5_strainLower (cI cJ cZ : ClassId) (qh : Nat → Nat) (S_h : gWS) (T_h : gWT) (U_h : gWU) (Q : Int → Prop) : Option Value → va_W → Prop := fun v w1 => ∃ (r : Int), v = some (.long (lL r)) ∧ w1 = (wdW cI cJ cZ qh S_h T_h U_h) ∧ Q r
def wp_X5_strainLower (S_h : gWS) (x1 : Int) (Q : Int → Prop) : Prop :=
    rI x1 ∧ ((¬ x1 = (-6) → wp_X6_at 10 S_h.2.2.2.2 x1 (fun (r15 : Int) => rI r15 ∧ Q r15)) ∧ (¬ (¬ x1 = (-6)) → Q 1))

set_option maxHeartbeats 4000000 in
set_option maxRecDepth 20000 in
theorem c_X5_strainLower {l : Launch} {D : va_G} {cI cJ cZ : ClassId} (qh : Nat → Nat) (S_h : gWS) (T_h : gWT) (U_h : gWU) (x1 : Int) (Q : Int → Prop) (h : wp_X5_strainLower S_h x1 Q) : KM l D (kT cI cJ cZ) 0 0 yX5_strainLower wsX5_strainLower rm_X5_strainLower [.ref (qh 0), .int (iI x1)] ((wdW cI cJ cZ qh S_h T_h U_h)) (rp_X5_strainLower cI cJ cZ qh S_h T_h U_h Q) := by
  refine KM_intro (lv := [(0, .ref (qh 0)), (1, .int (iI x1))]) false rfl (by decide) (Nat.le_of_ble_eq_true rfl) rfl (fun h => absurd h (by decide)) (fun v ws hq => by obtain ⟨r, rfl, rfl, _⟩ := hq; exact Or.inr (Or.inr (Or.inr ⟨rfl, _, rfl⟩))) (fun A K C => ?_)
  refine k_iload_n C dX5_strainLower_0 1 rfl rfl 1 rfl ?_
  refine k_bipush C dX5_strainLower_1 (by decide) 3 rfl ?_
  obtain ⟨hr3a, h⟩ := h
  obtain ⟨ht, hf⟩ := h
  refine k_icmp_ne C dX5_strainLower_3 ⟨hr3a, (by decide)⟩ 10 6 (by decide) rfl (fun hc3 => ?_) (fun hc3 => ?_)
  · have h := ht hc3; clear ht hf
    refine k_aload_n C dX5_strainLower_10 0 rfl rfl 11 rfl ?_
    refine k_get C dX5_strainLower_11 0 rfl (ci := 5) rfl hin_X5_strainLower_5 5 (by decide) (List.mem_of_getElem? (i := 1) rfl) rfl 14 rfl ?_
    refine k_iload_n C dX5_strainLower_14 1 rfl rfl 15 rfl ?_
    have hM := c_X6_at (l := l) (D := D) (cI := cI) (cJ := cJ) (cZ := cZ) (qh 3) 10 (by decide) S_h.2.2.2.2 x1 _ h
    refine k_callNS C dX5_strainLower_15 hM gX5_strainLower_X6_at_n71 (List.mem_of_getElem? (i := 37) rfl) (List.mem_of_getElem? (i := 3) rfl) rfl sg_X6_at (List.mem_of_getElem? (i := 2) rfl) rfl (Nat.le_of_ble_eq_true rfl) ⟨⟨rfl, rfl⟩, by decide, by decide⟩ ⟨Nat.le_refl 0, Nat.le_refl 0⟩ [3] [0, 1, 2, 4, 5, 6, 7, 8] rfl rfl rfl rfl (by decide) 0 0 ⟨rfl, rfl⟩ 18 rfl (fun v w1 hq15 => ?_)
    obtain ⟨r15, rfl, rfl, h⟩ := hq15
    refine k_perm C [0, 1, 2, 8, 3, 4, 5, 6, 7] [.int (iI r15)] ((wdW cI cJ cZ qh S_h T_h U_h)) rfl rfl rfl ?_
    obtain ⟨hr18a, h⟩ := h
    refine k_i2l C dX5_strainLower_18 hr18a 19 rfl ?_
    exact k_lret C dX5_strainLower_19 ⟨r15, rfl, rfl, h⟩
  · have h := hf hc3; clear ht hf
    refine k_lconst (v := 1) C dX5_strainLower_6 (by decide) 7 rfl ?_
    refine k_goto C dX5_strainLower_7 19 (by decide) ?_
    exact k_lret C dX5_strainLower_19 ⟨1, rfl, rfl, h⟩

/-! X5_strainUpper -/
abbrev rm_X5_strainUpper : Room := { frames := 1, cells := 0, slots := 0, locals := 21 }
theorem sg_X5_strainUpper : yX5_strainUpper.cls ≠ "java/lang/invoke/MethodHandle" ∧ yX5_strainUpper.cls ≠ "java/lang/invoke/VarHandle" ∧ (parseMethodDescriptor yX5_strainUpper.desc).map (fun d => d.parameters.length) = some 1 := by decide +kernel
theorem hin_X5_strainUpper_5 : ∀ w ∈ wsX50, w ∈ wsX5_strainUpper := fun _ h => List.mem_cons_of_mem _ (List.mem_append_right _ h)
def rp_X5_strainUpper (cI cJ cZ : ClassId) (qh : Nat → Nat) (S_h : gWS) (T_h : gWT) (U_h : gWU) (Q : Int → Prop) : Option Value → va_W → Prop := fun v w1 => ∃ (r : Int), v = some (.long (lL r)) ∧ w1 = (wdW cI cJ cZ qh S_h T_h U_h) ∧ Q r
def wp_X5_strainUpper (U_h : gWU) (x1 : Int) (Q : Int → Prop) : Prop :=
    rI x1 ∧ ((¬ x1 = (-6) → wp_X6_at_ 10 U_h x1 (fun (r15 : Int) => Q r15)) ∧ (¬ (¬ x1 = (-6)) → Q 0))

set_option maxHeartbeats 4000000 in
set_option maxRecDepth 20000 in
theorem c_X5_strainUpper {l : Launch} {D : va_G} {cI cJ cZ : ClassId} (qh : Nat → Nat) (S_h : gWS) (T_h : gWT) (U_h : gWU) (x1 : Int) (Q : Int → Prop) (h : wp_X5_strainUpper U_h x1 Q) : KM l D (kT cI cJ cZ) 0 0 yX5_strainUpper wsX5_strainUpper rm_X5_strainUpper [.ref (qh 0), .int (iI x1)] ((wdW cI cJ cZ qh S_h T_h U_h)) (rp_X5_strainUpper cI cJ cZ qh S_h T_h U_h Q) := by
  refine KM_intro (lv := [(0, .ref (qh 0)), (1, .int (iI x1))]) false rfl (by decide) (Nat.le_of_ble_eq_true rfl) rfl (fun h => absurd h (by decide)) (fun v ws hq => by obtain ⟨r, rfl, rfl, _⟩ := hq; exact Or.inr (Or.inr (Or.inr ⟨rfl, _, rfl⟩))) (fun A K C => ?_)
  refine k_iload_n C dX5_strainUpper_0 1 rfl rfl 1 rfl ?_
  refine k_bipush C dX5_strainUpper_1 (by decide) 3 rfl ?_
  obtain ⟨hr3a, h⟩ := h
  obtain ⟨ht, hf⟩ := h
  refine k_icmp_ne C dX5_strainUpper_3 ⟨hr3a, (by decide)⟩ 10 6 (by decide) rfl (fun hc3 => ?_) (fun hc3 => ?_)
  · have h := ht hc3; clear ht hf
    refine k_aload_n C dX5_strainUpper_10 0 rfl rfl 11 rfl ?_
    refine k_get C dX5_strainUpper_11 0 rfl (ci := 5) rfl hin_X5_strainUpper_5 10 (by decide) (List.mem_of_getElem? (i := 1) rfl) rfl 14 rfl ?_
    refine k_iload_n C dX5_strainUpper_14 1 rfl rfl 15 rfl ?_
    have hM := c_X6_at_ (l := l) (D := D) (cI := cI) (cJ := cJ) (cZ := cZ) (qh 8) 10 (by decide) U_h x1 _ h
    refine k_callNS C dX5_strainUpper_15 hM gX5_strainUpper_X6_at__n127 (List.mem_of_getElem? (i := 39) rfl) (List.mem_of_getElem? (i := 3) rfl) rfl sg_X6_at_ (List.mem_of_getElem? (i := 2) rfl) rfl (Nat.le_of_ble_eq_true rfl) ⟨⟨rfl, rfl⟩, by decide, by decide⟩ ⟨Nat.le_refl 0, Nat.le_refl 0⟩ [8] [0, 1, 2, 3, 4, 5, 6, 7] rfl rfl rfl rfl (by decide) 0 0 ⟨rfl, rfl⟩ 18 rfl (fun v w1 hq15 => ?_)
    obtain ⟨r15, rfl, rfl, h⟩ := hq15
    refine k_perm C [0, 1, 2, 3, 4, 5, 6, 7, 8] [.long (lL r15)] ((wdW cI cJ cZ qh S_h T_h U_h)) rfl rfl rfl ?_
    exact k_lret C dX5_strainUpper_18 ⟨r15, rfl, rfl, h⟩
  · have h := hf hc3; clear ht hf
    refine k_lconst (v := 0) C dX5_strainUpper_6 (by decide) 7 rfl ?_
    refine k_goto C dX5_strainUpper_7 18 (by decide) ?_
    exact k_lret C dX5_strainUpper_18 ⟨0, rfl, rfl, h⟩

/-! X5_mostStrained -/
abbrev rm_X5_mostStrained : Room := { frames := 2, cells := 0, slots := 0, locals := 42 }
theorem sg_X5_mostStrained : yX5_mostStrained.cls ≠ "java/lang/invoke/MethodHandle" ∧ yX5_mostStrained.cls ≠ "java/lang/invoke/VarHandle" ∧ (parseMethodDescriptor yX5_mostStrained.desc).map (fun d => d.parameters.length) = some 0 := by decide +kernel
theorem hin_X5_mostStrained_5 : ∀ w ∈ wsX50, w ∈ wsX5_mostStrained := fun _ h => List.mem_cons_of_mem _ (List.mem_append_right _ h)
def rp_X5_mostStrained (cI cJ cZ : ClassId) (qh : Nat → Nat) (S_h : gWS) (T_h : gWT) (U_h : gWU) (Q : Int → Prop) : Option Value → va_W → Prop := fun v w1 => ∃ (r : Int), v = some (.int (iI r)) ∧ w1 = (wdW cI cJ cZ qh S_h T_h U_h) ∧ Q r
def wp_X5_mostStrained_5 (S_h : gWS) (T_h : gWT) (U_h : gWU) (K_70 : Int → Prop)  (Q : Int → Prop) : Nat → Int → Int → Prop
  | 0, _, _ => False
  | n5 + 1, x1, x2 =>
    rI x2 ∧ ((10 ≤ x2 → K_70 x1) ∧ (¬ (10 ≤ x2) → wp_X5_isLaid T_h x2 (fun (r13 : Int) => ((r13 = 0 → wp_X5_mostStrained_5 S_h T_h U_h K_70 Q n5 x1 (x2 + 1)) ∧ (¬ (r13 = 0) → wp_X6_at 10 S_h.2.2.2.2 x2 (fun (r24 : Int) => rI r24 ∧ ((r24 ≤ 0 → wp_X5_mostStrained_5 S_h T_h U_h K_70 Q n5 x1 (x2 + 1)) ∧ (¬ (r24 ≤ 0) → rI x1 ∧ ((x1 = (-6) → wp_X5_mostStrained_5 S_h T_h U_h K_70 Q n5 x2 (x2 + 1)) ∧ (¬ (x1 = (-6)) → wp_X5_strainUpper U_h x2 (fun (r38 : Int) => wp_X5_strainLower S_h x1 (fun (r43 : Int) => wp_X5_strainUpper U_h x1 (fun (r49 : Int) => wp_X5_strainLower S_h x2 (fun (r54 : Int) => rL (r38 * r43) ∧ rL (r49 * r54) ∧ (((r38 * r43) ≤ (r49 * r54) → wp_X5_mostStrained_5 S_h T_h U_h K_70 Q n5 x1 (x2 + 1)) ∧ (¬ ((r38 * r43) ≤ (r49 * r54)) → wp_X5_mostStrained_5 S_h T_h U_h K_70 Q n5 x2 (x2 + 1)))))))))))))))))
def wp_X5_mostStrained (S_h : gWS) (T_h : gWT) (U_h : gWU) (Q : Int → Prop) : Prop :=
    ∃ m5, wp_X5_mostStrained_5 S_h T_h U_h (fun (x1 : Int) => Q x1) Q m5 (-6) 0
set_option maxHeartbeats 4000000 in
set_option maxRecDepth 20000 in
theorem w_X5_mostStrained_5 {l : Launch} {D : va_G} {cI cJ cZ : ClassId} {A : Nat → Prop} {K : KT} {qh : Nat → Nat} {S_h : gWS} {T_h : gWT} {U_h : gWU} {Q : Int → Prop} {K_70 : Int → Prop} (C : KC cX5_mostStrained yX5_mostStrained.cls wsX5_mostStrained rm_X5_mostStrained 3 D (kT cI cJ cZ) A l false (rp_X5_mostStrained cI cJ cZ qh S_h T_h U_h Q) 0 0 K) : ∀ (n : Nat) (x1 : Int) (x2 : Int), wp_X5_mostStrained_5 S_h T_h U_h K_70 Q n x1 x2 → (∀ (x1 : Int), K_70 x1 → K 0 0 70 [(1, .int (iI x1))] [] ((wdW cI cJ cZ qh S_h T_h U_h))) → K 0 0 5 [(0, .ref (qh 0)), (1, .int (iI x1)), (2, .int (iI x2))] [] ((wdW cI cJ cZ qh S_h T_h U_h)) := by
  intro n
  induction n with
  | zero => intro x1 x2 h; exact h.elim
  | succ n ih =>
    intro x1 x2 h hK_70
    refine k_iload_n C dX5_mostStrained_5 2 rfl rfl 6 rfl ?_
    refine k_bipush C dX5_mostStrained_6 (by decide) 8 rfl ?_
    obtain ⟨hr8a, h⟩ := h
    obtain ⟨ht, hf⟩ := h
    refine k_icmp_ge C dX5_mostStrained_8 ⟨hr8a, (by decide)⟩ 70 11 (by decide) rfl (fun hc8 => ?_) (fun hc8 => ?_)
    · have h := ht hc8; clear ht hf
      refine k_lv C [1] [(1, .int (iI x1))] rfl ?_
      exact hK_70 x1 h
    · have h := hf hc8; clear ht hf
      refine k_aload_n C dX5_mostStrained_11 0 rfl rfl 12 rfl ?_
      refine k_iload_n C dX5_mostStrained_12 2 rfl rfl 13 rfl ?_
      have hM := c_X5_isLaid (l := l) (D := D) (cI := cI) (cJ := cJ) (cZ := cZ) qh S_h T_h U_h x2 _ h
      refine k_callV C dX5_mostStrained_13 hM gX5_mostStrained_X5_isLaid rfl sg_X5_isLaid 5 rfl rfl rfl (Nat.le_of_ble_eq_true rfl) ⟨⟨rfl, rfl⟩, by decide, by decide⟩ ⟨Nat.le_refl 0, Nat.le_refl 0⟩ [0, 1, 2, 3, 4, 5, 6, 7, 8] [] rfl rfl rfl rfl (by decide) 0 0 ⟨rfl, rfl⟩ 16 rfl (fun v w1 hq13 => ?_)
      obtain ⟨r13, rfl, rfl, hb13, h⟩ := hq13
      refine k_perm C [0, 1, 2, 3, 4, 5, 6, 7, 8] [.int (iI r13)] ((wdW cI cJ cZ qh S_h T_h U_h)) rfl rfl rfl ?_
      obtain ⟨ht, hf⟩ := h
      refine k_if_eq C dX5_mostStrained_16 (by rcases hb13 with rfl | rfl <;> decide) 64 19 (by decide) rfl (fun hc16 => ?_) (fun hc16 => ?_)
      · have h := ht hc16; clear ht hf
        refine k_iinc (j := 2) C dX5_mostStrained_64 rfl (by decide) [(2, .int (iI (x2 + 1))), (0, .ref (qh 0)), (1, .int (iI x1))] rfl 67 rfl ?_
        refine k_goto C dX5_mostStrained_67 5 (by decide) ?_
        refine k_lv C [1, 2, 0] [(0, .ref (qh 0)), (1, .int (iI x1)), (2, .int (iI (x2 + 1)))] rfl ?_
        exact ih x1 (x2 + 1) h hK_70
      · have h := hf hc16; clear ht hf
        refine k_aload_n C dX5_mostStrained_19 0 rfl rfl 20 rfl ?_
        refine k_get C dX5_mostStrained_20 0 rfl (ci := 5) rfl hin_X5_mostStrained_5 5 (by decide) (List.mem_of_getElem? (i := 1) rfl) rfl 23 rfl ?_
        refine k_iload_n C dX5_mostStrained_23 2 rfl rfl 24 rfl ?_
        have hM := c_X6_at (l := l) (D := D) (cI := cI) (cJ := cJ) (cZ := cZ) (qh 3) 10 (by decide) S_h.2.2.2.2 x2 _ h
        refine k_callNS C dX5_mostStrained_24 hM gX5_mostStrained_X6_at_n71 (List.mem_of_getElem? (i := 37) rfl) (List.mem_of_getElem? (i := 9) rfl) rfl sg_X6_at (List.mem_of_getElem? (i := 11) rfl) rfl (Nat.le_of_ble_eq_true rfl) ⟨⟨rfl, rfl⟩, by decide, by decide⟩ ⟨Nat.le_refl 0, Nat.le_refl 0⟩ [3] [0, 1, 2, 4, 5, 6, 7, 8] rfl rfl rfl rfl (by decide) 0 0 ⟨rfl, rfl⟩ 27 rfl (fun v w1 hq24 => ?_)
        obtain ⟨r24, rfl, rfl, h⟩ := hq24
        refine k_perm C [0, 1, 2, 8, 3, 4, 5, 6, 7] [.int (iI r24)] ((wdW cI cJ cZ qh S_h T_h U_h)) rfl rfl rfl ?_
        obtain ⟨hr27a, h⟩ := h
        obtain ⟨ht, hf⟩ := h
        refine k_if_le C dX5_mostStrained_27 hr27a 64 30 (by decide) rfl (fun hc27 => ?_) (fun hc27 => ?_)
        · have h := ht hc27; clear ht hf
          refine k_iinc (j := 2) C dX5_mostStrained_64 rfl (by decide) [(2, .int (iI (x2 + 1))), (0, .ref (qh 0)), (1, .int (iI x1))] rfl 67 rfl ?_
          refine k_goto C dX5_mostStrained_67 5 (by decide) ?_
          refine k_lv C [1, 2, 0] [(0, .ref (qh 0)), (1, .int (iI x1)), (2, .int (iI (x2 + 1)))] rfl ?_
          exact ih x1 (x2 + 1) h hK_70
        · have h := hf hc27; clear ht hf
          refine k_iload_n C dX5_mostStrained_30 1 rfl rfl 31 rfl ?_
          refine k_bipush C dX5_mostStrained_31 (by decide) 33 rfl ?_
          obtain ⟨hr33a, h⟩ := h
          obtain ⟨ht, hf⟩ := h
          refine k_icmp_eq C dX5_mostStrained_33 ⟨hr33a, (by decide)⟩ 62 36 (by decide) rfl (fun hc33 => ?_) (fun hc33 => ?_)
          · have h := ht hc33; clear ht hf
            refine k_iload_n C dX5_mostStrained_62 2 rfl rfl 63 rfl ?_
            refine k_istore_n C dX5_mostStrained_63 rfl (by decide) [(1, .int (iI x2)), (0, .ref (qh 0)), (2, .int (iI x2))] rfl 64 rfl ?_
            refine k_iinc (j := 2) C dX5_mostStrained_64 rfl (by decide) [(2, .int (iI (x2 + 1))), (1, .int (iI x2)), (0, .ref (qh 0))] rfl 67 rfl ?_
            refine k_goto C dX5_mostStrained_67 5 (by decide) ?_
            refine k_lv C [2, 1, 0] [(0, .ref (qh 0)), (1, .int (iI x2)), (2, .int (iI (x2 + 1)))] rfl ?_
            exact ih x2 (x2 + 1) h hK_70
          · have h := hf hc33; clear ht hf
            refine k_aload_n C dX5_mostStrained_36 0 rfl rfl 37 rfl ?_
            refine k_iload_n C dX5_mostStrained_37 2 rfl rfl 38 rfl ?_
            have hM := c_X5_strainUpper (l := l) (D := D) (cI := cI) (cJ := cJ) (cZ := cZ) qh S_h T_h U_h x2 _ h
            refine k_callV C dX5_mostStrained_38 hM gX5_mostStrained_X5_strainUpper rfl sg_X5_strainUpper 5 rfl rfl rfl (Nat.le_of_ble_eq_true rfl) ⟨⟨rfl, rfl⟩, by decide, by decide⟩ ⟨Nat.le_refl 0, Nat.le_refl 0⟩ [0, 1, 2, 3, 4, 5, 6, 7, 8] [] rfl rfl rfl rfl (by decide) 0 0 ⟨rfl, rfl⟩ 41 rfl (fun v w1 hq38 => ?_)
            obtain ⟨r38, rfl, rfl, h⟩ := hq38
            refine k_perm C [0, 1, 2, 3, 4, 5, 6, 7, 8] [.long (lL r38)] ((wdW cI cJ cZ qh S_h T_h U_h)) rfl rfl rfl ?_
            refine k_aload_n C dX5_mostStrained_41 0 rfl rfl 42 rfl ?_
            refine k_iload_n C dX5_mostStrained_42 1 rfl rfl 43 rfl ?_
            have hM := c_X5_strainLower (l := l) (D := D) (cI := cI) (cJ := cJ) (cZ := cZ) qh S_h T_h U_h x1 _ h
            refine k_callV C dX5_mostStrained_43 hM gX5_mostStrained_X5_strainLower rfl sg_X5_strainLower 5 rfl rfl rfl (Nat.le_of_ble_eq_true rfl) ⟨⟨rfl, rfl⟩, by decide, by decide⟩ ⟨Nat.le_refl 0, Nat.le_refl 0⟩ [0, 1, 2, 3, 4, 5, 6, 7, 8] [] rfl rfl rfl rfl (by decide) 0 0 ⟨rfl, rfl⟩ 46 rfl (fun v w1 hq43 => ?_)
            obtain ⟨r43, rfl, rfl, h⟩ := hq43
            refine k_perm C [0, 1, 2, 3, 4, 5, 6, 7, 8] [.long (lL r43), .long (lL r38)] ((wdW cI cJ cZ qh S_h T_h U_h)) rfl rfl rfl ?_
            refine k_lmul C dX5_mostStrained_46 47 rfl ?_
            refine k_aload_n C dX5_mostStrained_47 0 rfl rfl 48 rfl ?_
            refine k_iload_n C dX5_mostStrained_48 1 rfl rfl 49 rfl ?_
            have hM := c_X5_strainUpper (l := l) (D := D) (cI := cI) (cJ := cJ) (cZ := cZ) qh S_h T_h U_h x1 _ h
            refine k_callV C dX5_mostStrained_49 hM gX5_mostStrained_X5_strainUpper rfl sg_X5_strainUpper 5 rfl rfl rfl (Nat.le_of_ble_eq_true rfl) ⟨⟨rfl, rfl⟩, by decide, by decide⟩ ⟨Nat.le_refl 0, Nat.le_refl 0⟩ [0, 1, 2, 3, 4, 5, 6, 7, 8] [] rfl rfl rfl rfl (by decide) 0 0 ⟨rfl, rfl⟩ 52 rfl (fun v w1 hq49 => ?_)
            obtain ⟨r49, rfl, rfl, h⟩ := hq49
            refine k_perm C [0, 1, 2, 3, 4, 5, 6, 7, 8] [.long (lL r49), .long (lL (r38 * r43))] ((wdW cI cJ cZ qh S_h T_h U_h)) rfl rfl rfl ?_
            refine k_aload_n C dX5_mostStrained_52 0 rfl rfl 53 rfl ?_
            refine k_iload_n C dX5_mostStrained_53 2 rfl rfl 54 rfl ?_
            have hM := c_X5_strainLower (l := l) (D := D) (cI := cI) (cJ := cJ) (cZ := cZ) qh S_h T_h U_h x2 _ h
            refine k_callV C dX5_mostStrained_54 hM gX5_mostStrained_X5_strainLower rfl sg_X5_strainLower 5 rfl rfl rfl (Nat.le_of_ble_eq_true rfl) ⟨⟨rfl, rfl⟩, by decide, by decide⟩ ⟨Nat.le_refl 0, Nat.le_refl 0⟩ [0, 1, 2, 3, 4, 5, 6, 7, 8] [] rfl rfl rfl rfl (by decide) 0 0 ⟨rfl, rfl⟩ 57 rfl (fun v w1 hq54 => ?_)
            obtain ⟨r54, rfl, rfl, h⟩ := hq54
            refine k_perm C [0, 1, 2, 3, 4, 5, 6, 7, 8] [.long (lL r54), .long (lL r49), .long (lL (r38 * r43))] ((wdW cI cJ cZ qh S_h T_h U_h)) rfl rfl rfl ?_
            refine k_lmul C dX5_mostStrained_57 58 rfl ?_
            obtain ⟨hr58a, hr58b, h⟩ := h
            obtain ⟨ht, hf⟩ := h
            refine k_lcmp_le C dX5_mostStrained_58 dX5_mostStrained_59 ⟨hr58a, hr58b⟩ 64 62 (by decide) rfl (fun hc58 => ?_) (fun hc58 => ?_)
            · have h := ht hc58; clear ht hf
              refine k_iinc (j := 2) C dX5_mostStrained_64 rfl (by decide) [(2, .int (iI (x2 + 1))), (0, .ref (qh 0)), (1, .int (iI x1))] rfl 67 rfl ?_
              refine k_goto C dX5_mostStrained_67 5 (by decide) ?_
              refine k_lv C [1, 2, 0] [(0, .ref (qh 0)), (1, .int (iI x1)), (2, .int (iI (x2 + 1)))] rfl ?_
              exact ih x1 (x2 + 1) h hK_70
            · have h := hf hc58; clear ht hf
              refine k_iload_n C dX5_mostStrained_62 2 rfl rfl 63 rfl ?_
              refine k_istore_n C dX5_mostStrained_63 rfl (by decide) [(1, .int (iI x2)), (0, .ref (qh 0)), (2, .int (iI x2))] rfl 64 rfl ?_
              refine k_iinc (j := 2) C dX5_mostStrained_64 rfl (by decide) [(2, .int (iI (x2 + 1))), (1, .int (iI x2)), (0, .ref (qh 0))] rfl 67 rfl ?_
              refine k_goto C dX5_mostStrained_67 5 (by decide) ?_
              refine k_lv C [2, 1, 0] [(0, .ref (qh 0)), (1, .int (iI x2)), (2, .int (iI (x2 + 1)))] rfl ?_
              exact ih x2 (x2 + 1) h hK_70
set_option maxHeartbeats 4000000 in
set_option maxRecDepth 20000 in
theorem c_X5_mostStrained {l : Launch} {D : va_G} {cI cJ cZ : ClassId} (qh : Nat → Nat) (S_h : gWS) (T_h : gWT) (U_h : gWU) (Q : Int → Prop) (h : wp_X5_mostStrained S_h T_h U_h Q) : KM l D (kT cI cJ cZ) 0 0 yX5_mostStrained wsX5_mostStrained rm_X5_mostStrained [.ref (qh 0)] ((wdW cI cJ cZ qh S_h T_h U_h)) (rp_X5_mostStrained cI cJ cZ qh S_h T_h U_h Q) := by
  refine KM_intro (lv := [(0, .ref (qh 0))]) false rfl (by decide) (Nat.le_of_ble_eq_true rfl) rfl (fun h => absurd h (by decide)) (fun v ws hq => by obtain ⟨r, rfl, rfl, _⟩ := hq; exact Or.inr (Or.inl ⟨rfl, _, rfl⟩)) (fun A K C => ?_)
  refine k_bipush C dX5_mostStrained_0 (by decide) 2 rfl ?_
  refine k_istore_n C dX5_mostStrained_2 rfl (by decide) [(1, .int (iI (-6))), (0, .ref (qh 0))] rfl 3 rfl ?_
  refine k_iconst C dX5_mostStrained_3 4 rfl ?_
  refine k_istore_n C dX5_mostStrained_4 rfl (by decide) [(2, .int (iI 0)), (1, .int (iI (-6))), (0, .ref (qh 0))] rfl 5 rfl ?_
  refine k_lv C [2, 1, 0] [(0, .ref (qh 0)), (1, .int (iI (-6))), (2, .int (iI 0))] rfl ?_
  obtain ⟨m5, h⟩ := h
  refine w_X5_mostStrained_5 C m5 (-6) 0 h (fun x1 h => ?_)
  · refine k_iload_n C dX5_mostStrained_70 0 rfl rfl 71 rfl ?_
    exact k_iret C dX5_mostStrained_71 ⟨x1, rfl, rfl, h⟩

/-! X5_fallingNow -/
abbrev rm_X5_fallingNow : Room := { frames := 3, cells := 0, slots := 0, locals := 108 }
theorem sg_X5_fallingNow : yX5_fallingNow.cls ≠ "java/lang/invoke/MethodHandle" ∧ yX5_fallingNow.cls ≠ "java/lang/invoke/VarHandle" ∧ (parseMethodDescriptor yX5_fallingNow.desc).map (fun d => d.parameters.length) = some 0 := by decide +kernel
theorem hin_X5_fallingNow_5 : ∀ w ∈ wsX50, w ∈ wsX5_fallingNow := fun _ h => List.mem_cons_of_mem _ (List.mem_append_right _ h)
def rp_X5_fallingNow (cI cJ cZ : ClassId) (qh : Nat → Nat) (S_h : gWS) (T_h : gWT) (Q : Int → gWU → Prop) : Option Value → va_W → Prop := fun v w1 => ∃ (r : Int) (U_h : gWU), v = some (.int (iI r)) ∧ w1 = (wdW cI cJ cZ qh S_h T_h U_h) ∧ Q r U_h
def wp_X5_fallingNow_8 (S_h : gWS) (T_h : gWT) (K_78 : Int → gWU → Prop)  (Q : Int → gWU → Prop) : Nat → Int → Int → gWU → Prop
  | 0, _, _, _ => False
  | n8 + 1, x1, x2, U_h =>
    rI x2 ∧ ((10 ≤ x2 → K_78 x1 U_h) ∧ (¬ (10 ≤ x2) → wp_X6_at 10 S_h.2.2.1 x2 (fun (r19 : Int) => wp_X5_isLaid T_h x2 (fun (r25 : Int) => ((r25 = 0 → wp_X5_fallingNow_8 S_h T_h K_78 Q n8 x1 (x2 + 1) U_h) ∧ (¬ (r25 = 0) → wp_X5_isTooHeavyOn S_h U_h x2 (fun (r33 : Int) => ((¬ r33 = 0 → wp_X5_fallingNow_8 S_h T_h K_78 Q n8 (ior x1 (ishl 1 x2)) (x2 + 1) U_h) ∧ (¬ (¬ r33 = 0) → wp_X6_at 10 T_h.2.1 x2 (fun (r46 : Int) => wp_X6_at 10 T_h.2.2.1 x2 (fun (r54 : Int) => wp_X5_heldCells T_h r46 r54 r19 (fun (r58 : Int) => rI (2 * r58) ∧ rI r19 ∧ ((r19 ≤ (2 * r58) → wp_X5_fallingNow_8 S_h T_h K_78 Q n8 x1 (x2 + 1) U_h) ∧ (¬ (r19 ≤ (2 * r58)) → wp_X5_fallingNow_8 S_h T_h K_78 Q n8 (ior x1 (ishl 1 x2)) (x2 + 1) U_h))))))))))))))
def wp_X5_fallingNow (S_h : gWS) (T_h : gWT) (U_h : gWU) (Q : Int → gWU → Prop) : Prop :=
    wp_X5_weigh S_h T_h U_h (fun (U_h_1 : gWU) => ∃ m8, wp_X5_fallingNow_8 S_h T_h (fun (x1 : Int) (U_h : gWU) => Q x1 U_h) Q m8 0 0 U_h_1)
set_option maxHeartbeats 4000000 in
set_option maxRecDepth 20000 in
theorem w_X5_fallingNow_8 {l : Launch} {D : va_G} {cI cJ cZ : ClassId} {A : Nat → Prop} {K : KT} {qh : Nat → Nat} {S_h : gWS} {T_h : gWT} {Q : Int → gWU → Prop} {K_78 : Int → gWU → Prop} (C : KC cX5_fallingNow yX5_fallingNow.cls wsX5_fallingNow rm_X5_fallingNow 4 D (kT cI cJ cZ) A l false (rp_X5_fallingNow cI cJ cZ qh S_h T_h Q) 0 0 K) : ∀ (n : Nat) (x1 : Int) (x2 : Int) (U_h : gWU), wp_X5_fallingNow_8 S_h T_h K_78 Q n x1 x2 U_h → (∀ (x1 : Int) (U_h : gWU), K_78 x1 U_h → K 0 0 78 [(1, .int (iI x1))] [] ((wdW cI cJ cZ qh S_h T_h U_h))) → K 0 0 8 [(0, .ref (qh 0)), (1, .int (iI x1)), (2, .int (iI x2))] [] ((wdW cI cJ cZ qh S_h T_h U_h)) := by
  intro n
  induction n with
  | zero => intro x1 x2 U_h h; exact h.elim
  | succ n ih =>
    intro x1 x2 U_h h hK_78
    refine k_iload_n C dX5_fallingNow_8 2 rfl rfl 9 rfl ?_
    refine k_bipush C dX5_fallingNow_9 (by decide) 11 rfl ?_
    obtain ⟨hr11a, h⟩ := h
    obtain ⟨ht, hf⟩ := h
    refine k_icmp_ge C dX5_fallingNow_11 ⟨hr11a, (by decide)⟩ 78 14 (by decide) rfl (fun hc11 => ?_) (fun hc11 => ?_)
    · have h := ht hc11; clear ht hf
      refine k_lv C [1] [(1, .int (iI x1))] rfl ?_
      exact hK_78 x1 U_h h
    · have h := hf hc11; clear ht hf
      refine k_aload_n C dX5_fallingNow_14 0 rfl rfl 15 rfl ?_
      refine k_get C dX5_fallingNow_15 0 rfl (ci := 5) rfl hin_X5_fallingNow_5 3 (by decide) (List.mem_of_getElem? (i := 1) rfl) rfl 18 rfl ?_
      refine k_iload_n C dX5_fallingNow_18 2 rfl rfl 19 rfl ?_
      have hM := c_X6_at (l := l) (D := D) (cI := cI) (cJ := cJ) (cZ := cZ) (qh 1) 10 (by decide) S_h.2.2.1 x2 _ h
      refine k_callNS C dX5_fallingNow_19 hM gX5_fallingNow_X6_at_n71 (List.mem_of_getElem? (i := 37) rfl) (List.mem_of_getElem? (i := 11) rfl) rfl sg_X6_at (List.mem_of_getElem? (i := 22) rfl) rfl (Nat.le_of_ble_eq_true rfl) ⟨⟨rfl, rfl⟩, by decide, by decide⟩ ⟨Nat.le_refl 0, Nat.le_refl 0⟩ [1] [0, 2, 3, 4, 5, 6, 7, 8] rfl rfl rfl rfl (by decide) 0 0 ⟨rfl, rfl⟩ 22 rfl (fun v w1 hq19 => ?_)
      obtain ⟨r19, rfl, rfl, h⟩ := hq19
      refine k_perm C [0, 8, 1, 2, 3, 4, 5, 6, 7] [.int (iI r19)] ((wdW cI cJ cZ qh S_h T_h U_h)) rfl rfl rfl ?_
      refine k_istore_n C dX5_fallingNow_22 rfl (by decide) [(3, .int (iI r19)), (0, .ref (qh 0)), (1, .int (iI x1)), (2, .int (iI x2))] rfl 23 rfl ?_
      refine k_aload_n C dX5_fallingNow_23 1 rfl rfl 24 rfl ?_
      refine k_iload_n C dX5_fallingNow_24 3 rfl rfl 25 rfl ?_
      have hM := c_X5_isLaid (l := l) (D := D) (cI := cI) (cJ := cJ) (cZ := cZ) qh S_h T_h U_h x2 _ h
      refine k_callV C dX5_fallingNow_25 hM gX5_fallingNow_X5_isLaid rfl sg_X5_isLaid 5 rfl rfl rfl (Nat.le_of_ble_eq_true rfl) ⟨⟨rfl, rfl⟩, by decide, by decide⟩ ⟨Nat.le_refl 0, Nat.le_refl 0⟩ [0, 1, 2, 3, 4, 5, 6, 7, 8] [] rfl rfl rfl rfl (by decide) 0 0 ⟨rfl, rfl⟩ 28 rfl (fun v w1 hq25 => ?_)
      obtain ⟨r25, rfl, rfl, hb25, h⟩ := hq25
      refine k_perm C [0, 1, 2, 3, 4, 5, 6, 7, 8] [.int (iI r25)] ((wdW cI cJ cZ qh S_h T_h U_h)) rfl rfl rfl ?_
      obtain ⟨ht, hf⟩ := h
      refine k_if_eq C dX5_fallingNow_28 (by rcases hb25 with rfl | rfl <;> decide) 72 31 (by decide) rfl (fun hc28 => ?_) (fun hc28 => ?_)
      · have h := ht hc28; clear ht hf
        refine k_iinc (j := 3) C dX5_fallingNow_72 rfl (by decide) [(2, .int (iI (x2 + 1))), (3, .int (iI r19)), (0, .ref (qh 0)), (1, .int (iI x1))] rfl 75 rfl ?_
        refine k_goto C dX5_fallingNow_75 8 (by decide) ?_
        refine k_lv C [2, 3, 0] [(0, .ref (qh 0)), (1, .int (iI x1)), (2, .int (iI (x2 + 1)))] rfl ?_
        exact ih x1 (x2 + 1) U_h h hK_78
      · have h := hf hc28; clear ht hf
        refine k_aload_n C dX5_fallingNow_31 1 rfl rfl 32 rfl ?_
        refine k_iload_n C dX5_fallingNow_32 3 rfl rfl 33 rfl ?_
        have hM := c_X5_isTooHeavyOn (l := l) (D := D) (cI := cI) (cJ := cJ) (cZ := cZ) qh S_h T_h U_h x2 _ h
        refine k_callV C dX5_fallingNow_33 hM gX5_fallingNow_X5_isTooHeavyOn rfl sg_X5_isTooHeavyOn 5 rfl rfl rfl (Nat.le_of_ble_eq_true rfl) ⟨⟨rfl, rfl⟩, by decide, by decide⟩ ⟨Nat.le_refl 0, Nat.le_refl 0⟩ [0, 1, 2, 3, 4, 5, 6, 7, 8] [] rfl rfl rfl rfl (by decide) 0 0 ⟨rfl, rfl⟩ 36 rfl (fun v w1 hq33 => ?_)
        obtain ⟨r33, rfl, rfl, hb33, h⟩ := hq33
        refine k_perm C [0, 1, 2, 3, 4, 5, 6, 7, 8] [.int (iI r33)] ((wdW cI cJ cZ qh S_h T_h U_h)) rfl rfl rfl ?_
        obtain ⟨ht, hf⟩ := h
        refine k_if_ne C dX5_fallingNow_36 (by rcases hb33 with rfl | rfl <;> decide) 66 39 (by decide) rfl (fun hc36 => ?_) (fun hc36 => ?_)
        · have h := ht hc36; clear ht hf
          refine k_iload_n C dX5_fallingNow_66 2 rfl rfl 67 rfl ?_
          refine k_iconst C dX5_fallingNow_67 68 rfl ?_
          refine k_iload_n C dX5_fallingNow_68 3 rfl rfl 69 rfl ?_
          refine k_ishl C dX5_fallingNow_69 70 rfl ?_
          refine k_ior C dX5_fallingNow_70 71 rfl ?_
          refine k_istore_n C dX5_fallingNow_71 rfl (by decide) [(1, .int (iI (ior x1 (ishl 1 x2)))), (3, .int (iI r19)), (0, .ref (qh 0)), (2, .int (iI x2))] rfl 72 rfl ?_
          refine k_iinc (j := 3) C dX5_fallingNow_72 rfl (by decide) [(2, .int (iI (x2 + 1))), (1, .int (iI (ior x1 (ishl 1 x2)))), (3, .int (iI r19)), (0, .ref (qh 0))] rfl 75 rfl ?_
          refine k_goto C dX5_fallingNow_75 8 (by decide) ?_
          refine k_lv C [3, 1, 0] [(0, .ref (qh 0)), (1, .int (iI (ior x1 (ishl 1 x2)))), (2, .int (iI (x2 + 1)))] rfl ?_
          exact ih (ior x1 (ishl 1 x2)) (x2 + 1) U_h h hK_78
        · have h := hf hc36; clear ht hf
          refine k_iconst C dX5_fallingNow_39 40 rfl ?_
          refine k_aload_n C dX5_fallingNow_40 1 rfl rfl 41 rfl ?_
          refine k_aload_n C dX5_fallingNow_41 1 rfl rfl 42 rfl ?_
          refine k_get C dX5_fallingNow_42 0 rfl (ci := 5) rfl hin_X5_fallingNow_5 6 (by decide) (List.mem_of_getElem? (i := 2) rfl) rfl 45 rfl ?_
          refine k_iload_n C dX5_fallingNow_45 3 rfl rfl 46 rfl ?_
          have hM := c_X6_at (l := l) (D := D) (cI := cI) (cJ := cJ) (cZ := cZ) (qh 4) 10 (by decide) T_h.2.1 x2 _ h
          refine k_callNS C dX5_fallingNow_46 hM gX5_fallingNow_X6_at_n71 (List.mem_of_getElem? (i := 37) rfl) (List.mem_of_getElem? (i := 11) rfl) rfl sg_X6_at (List.mem_of_getElem? (i := 22) rfl) rfl (Nat.le_of_ble_eq_true rfl) ⟨⟨rfl, rfl⟩, by decide, by decide⟩ ⟨Nat.le_refl 0, Nat.le_refl 0⟩ [4] [0, 1, 2, 3, 5, 6, 7, 8] rfl rfl rfl rfl (by decide) 0 0 ⟨rfl, rfl⟩ 49 rfl (fun v w1 hq46 => ?_)
          obtain ⟨r46, rfl, rfl, h⟩ := hq46
          refine k_perm C [0, 1, 2, 3, 8, 4, 5, 6, 7] [.int (iI r46), .ref (qh 0), .int (iI 2)] ((wdW cI cJ cZ qh S_h T_h U_h)) rfl rfl rfl ?_
          refine k_aload_n C dX5_fallingNow_49 1 rfl rfl 50 rfl ?_
          refine k_get C dX5_fallingNow_50 0 rfl (ci := 5) rfl hin_X5_fallingNow_5 7 (by decide) (List.mem_of_getElem? (i := 3) rfl) rfl 53 rfl ?_
          refine k_iload_n C dX5_fallingNow_53 3 rfl rfl 54 rfl ?_
          have hM := c_X6_at (l := l) (D := D) (cI := cI) (cJ := cJ) (cZ := cZ) (qh 5) 10 (by decide) T_h.2.2.1 x2 _ h
          refine k_callNS C dX5_fallingNow_54 hM gX5_fallingNow_X6_at_n71 (List.mem_of_getElem? (i := 37) rfl) (List.mem_of_getElem? (i := 11) rfl) rfl sg_X6_at (List.mem_of_getElem? (i := 22) rfl) rfl (Nat.le_of_ble_eq_true rfl) ⟨⟨rfl, rfl⟩, by decide, by decide⟩ ⟨Nat.le_refl 0, Nat.le_refl 0⟩ [5] [0, 1, 2, 3, 4, 6, 7, 8] rfl rfl rfl rfl (by decide) 0 0 ⟨rfl, rfl⟩ 57 rfl (fun v w1 hq54 => ?_)
          obtain ⟨r54, rfl, rfl, h⟩ := hq54
          refine k_perm C [0, 1, 2, 3, 4, 8, 5, 6, 7] [.int (iI r54), .int (iI r46), .ref (qh 0), .int (iI 2)] ((wdW cI cJ cZ qh S_h T_h U_h)) rfl rfl rfl ?_
          refine k_iload_n C dX5_fallingNow_57 0 rfl rfl 58 rfl ?_
          have hM := c_X5_heldCells (l := l) (D := D) (cI := cI) (cJ := cJ) (cZ := cZ) qh S_h T_h U_h r46 r54 r19 _ h
          refine k_callV C dX5_fallingNow_58 hM gX5_fallingNow_X5_heldCells rfl sg_X5_heldCells 5 rfl rfl rfl (Nat.le_of_ble_eq_true rfl) ⟨⟨rfl, rfl⟩, by decide, by decide⟩ ⟨Nat.le_refl 0, Nat.le_refl 0⟩ [0, 1, 2, 3, 4, 5, 6, 7, 8] [] rfl rfl rfl rfl (by decide) 0 0 ⟨rfl, rfl⟩ 61 rfl (fun v w1 hq58 => ?_)
          obtain ⟨r58, rfl, rfl, h⟩ := hq58
          refine k_perm C [0, 1, 2, 3, 4, 5, 6, 7, 8] [.int (iI r58), .int (iI 2)] ((wdW cI cJ cZ qh S_h T_h U_h)) rfl rfl rfl ?_
          refine k_imul C dX5_fallingNow_61 62 rfl ?_
          refine k_iload_n C dX5_fallingNow_62 0 rfl rfl 63 rfl ?_
          obtain ⟨hr63a, hr63b, h⟩ := h
          obtain ⟨ht, hf⟩ := h
          refine k_icmp_ge C dX5_fallingNow_63 ⟨hr63a, hr63b⟩ 72 66 (by decide) rfl (fun hc63 => ?_) (fun hc63 => ?_)
          · have h := ht hc63; clear ht hf
            refine k_iinc (j := 3) C dX5_fallingNow_72 rfl (by decide) [(2, .int (iI (x2 + 1))), (3, .int (iI r19)), (0, .ref (qh 0)), (1, .int (iI x1))] rfl 75 rfl ?_
            refine k_goto C dX5_fallingNow_75 8 (by decide) ?_
            refine k_lv C [2, 3, 0] [(0, .ref (qh 0)), (1, .int (iI x1)), (2, .int (iI (x2 + 1)))] rfl ?_
            exact ih x1 (x2 + 1) U_h h hK_78
          · have h := hf hc63; clear ht hf
            refine k_iload_n C dX5_fallingNow_66 2 rfl rfl 67 rfl ?_
            refine k_iconst C dX5_fallingNow_67 68 rfl ?_
            refine k_iload_n C dX5_fallingNow_68 3 rfl rfl 69 rfl ?_
            refine k_ishl C dX5_fallingNow_69 70 rfl ?_
            refine k_ior C dX5_fallingNow_70 71 rfl ?_
            refine k_istore_n C dX5_fallingNow_71 rfl (by decide) [(1, .int (iI (ior x1 (ishl 1 x2)))), (3, .int (iI r19)), (0, .ref (qh 0)), (2, .int (iI x2))] rfl 72 rfl ?_
            refine k_iinc (j := 3) C dX5_fallingNow_72 rfl (by decide) [(2, .int (iI (x2 + 1))), (1, .int (iI (ior x1 (ishl 1 x2)))), (3, .int (iI r19)), (0, .ref (qh 0))] rfl 75 rfl ?_
            refine k_goto C dX5_fallingNow_75 8 (by decide) ?_
            refine k_lv C [3, 1, 0] [(0, .ref (qh 0)), (1, .int (iI (ior x1 (ishl 1 x2)))), (2, .int (iI (x2 + 1)))] rfl ?_
            exact ih (ior x1 (ishl 1 x2)) (x2 + 1) U_h h hK_78
set_option maxHeartbeats 4000000 in
set_option maxRecDepth 20000 in
theorem c_X5_fallingNow {l : Launch} {D : va_G} {cI cJ cZ : ClassId} (qh : Nat → Nat) (S_h : gWS) (T_h : gWT) (U_h : gWU) (Q : Int → gWU → Prop) (h : wp_X5_fallingNow S_h T_h U_h Q) : KM l D (kT cI cJ cZ) 0 0 yX5_fallingNow wsX5_fallingNow rm_X5_fallingNow [.ref (qh 0)] ((wdW cI cJ cZ qh S_h T_h U_h)) (rp_X5_fallingNow cI cJ cZ qh S_h T_h Q) := by
  refine KM_intro (lv := [(0, .ref (qh 0))]) false rfl (by decide) (Nat.le_of_ble_eq_true rfl) rfl (fun h => absurd h (by decide)) (fun v ws hq => by obtain ⟨r, U_h, rfl, rfl, _⟩ := hq; exact Or.inr (Or.inl ⟨rfl, _, rfl⟩)) (fun A K C => ?_)
  refine k_aload_n C dX5_fallingNow_0 0 rfl rfl 1 rfl ?_
  have hM := c_X5_weigh (l := l) (D := D) (cI := cI) (cJ := cJ) (cZ := cZ) qh S_h T_h U_h _ h
  refine k_callV C dX5_fallingNow_1 hM gX5_fallingNow_X5_weigh rfl sg_X5_weigh 5 rfl rfl rfl (Nat.le_of_ble_eq_true rfl) ⟨⟨rfl, rfl⟩, by decide, by decide⟩ ⟨Nat.le_refl 0, Nat.le_refl 0⟩ [0, 1, 2, 3, 4, 5, 6, 7, 8] [] rfl rfl rfl rfl (by decide) 0 0 ⟨rfl, rfl⟩ 4 rfl (fun v w1 hq1 => ?_)
  obtain ⟨U_h_1, rfl, rfl, h⟩ := hq1
  refine k_perm C [0, 1, 2, 3, 4, 5, 6, 7, 8] [] ((wdW cI cJ cZ qh S_h T_h U_h_1)) rfl rfl rfl ?_
  refine k_iconst C dX5_fallingNow_4 5 rfl ?_
  refine k_istore_n C dX5_fallingNow_5 rfl (by decide) [(1, .int (iI 0)), (0, .ref (qh 0))] rfl 6 rfl ?_
  refine k_iconst C dX5_fallingNow_6 7 rfl ?_
  refine k_istore_n C dX5_fallingNow_7 rfl (by decide) [(2, .int (iI 0)), (1, .int (iI 0)), (0, .ref (qh 0))] rfl 8 rfl ?_
  refine k_lv C [2, 1, 0] [(0, .ref (qh 0)), (1, .int (iI 0)), (2, .int (iI 0))] rfl ?_
  obtain ⟨m8, h⟩ := h
  refine w_X5_fallingNow_8 C m8 0 0 U_h_1 h (fun x1 U_h h => ?_)
  · refine k_iload_n C dX5_fallingNow_78 0 rfl rfl 79 rfl ?_
    exact k_iret C dX5_fallingNow_79 ⟨x1, U_h, rfl, rfl, h⟩

/-! X5_collapse -/
abbrev rm_X5_collapse : Room := { frames := 4, cells := 0, slots := 0, locals := 131 }
theorem sg_X5_collapse : yX5_collapse.cls ≠ "java/lang/invoke/MethodHandle" ∧ yX5_collapse.cls ≠ "java/lang/invoke/VarHandle" ∧ (parseMethodDescriptor yX5_collapse.desc).map (fun d => d.parameters.length) = some 0 := by decide +kernel
def rp_X5_collapse (cI cJ cZ : ClassId) (qh : Nat → Nat) (S_h : gWS) (Q : Int → gWT → gWU → Prop) : Option Value → va_W → Prop := fun v w1 => ∃ (r : Int) (T_h : gWT) (U_h : gWU), v = some (.int (iI r)) ∧ w1 = (wdW cI cJ cZ qh S_h T_h U_h) ∧ Q r T_h U_h
def wp_X5_collapse_4 (S_h : gWS) (K_19 : Int → gWT → gWU → Prop) (K_36 : Int → gWT → gWU → Prop)  (Q : Int → gWT → gWU → Prop) : Nat → Int → Int → gWT → gWU → Prop
  | 0, _, _, _, _ => False
  | n4 + 1, x1, x2, T_h, U_h =>
    rI x2 ∧ ((10 ≤ x2 → K_36 x1 T_h U_h) ∧ (¬ (10 ≤ x2) → wp_X5_fallingNow S_h T_h U_h (fun (r11 : Int) (U_h_11 : gWU) => rI r11 ∧ ((¬ r11 = 0 → wp_X5_liftAll S_h T_h r11 (fun (T_h_23 : gWT) => wp_X5_collapse_4 S_h K_19 K_36 Q n4 (ior x1 r11) (x2 + 1) T_h_23 U_h_11)) ∧ (¬ (¬ r11 = 0) → K_19 x1 T_h U_h_11)))))
def wp_X5_collapse (S_h : gWS) (T_h : gWT) (U_h : gWU) (Q : Int → gWT → gWU → Prop) : Prop :=
    ∃ m4, wp_X5_collapse_4 S_h (fun (x1 : Int) (T_h : gWT) (U_h : gWU) => Q x1 T_h U_h) (fun (x1 : Int) (T_h : gWT) (U_h : gWU) => Q x1 T_h U_h) Q m4 0 0 T_h U_h
set_option maxHeartbeats 4000000 in
set_option maxRecDepth 20000 in
theorem w_X5_collapse_4 {l : Launch} {D : va_G} {cI cJ cZ : ClassId} {A : Nat → Prop} {K : KT} {qh : Nat → Nat} {S_h : gWS} {Q : Int → gWT → gWU → Prop} {K_19 : Int → gWT → gWU → Prop} {K_36 : Int → gWT → gWU → Prop} (C : KC cX5_collapse yX5_collapse.cls wsX5_collapse rm_X5_collapse 4 D (kT cI cJ cZ) A l false (rp_X5_collapse cI cJ cZ qh S_h Q) 0 0 K) : ∀ (n : Nat) (x1 : Int) (x2 : Int) (T_h : gWT) (U_h : gWU), wp_X5_collapse_4 S_h K_19 K_36 Q n x1 x2 T_h U_h → (∀ (x1 : Int) (T_h : gWT) (U_h : gWU), K_19 x1 T_h U_h → K 0 0 19 [(1, .int (iI x1))] [] ((wdW cI cJ cZ qh S_h T_h U_h))) → (∀ (x1 : Int) (T_h : gWT) (U_h : gWU), K_36 x1 T_h U_h → K 0 0 36 [(1, .int (iI x1))] [] ((wdW cI cJ cZ qh S_h T_h U_h))) → K 0 0 4 [(0, .ref (qh 0)), (1, .int (iI x1)), (2, .int (iI x2))] [] ((wdW cI cJ cZ qh S_h T_h U_h)) := by
  intro n
  induction n with
  | zero => intro x1 x2 T_h U_h h; exact h.elim
  | succ n ih =>
    intro x1 x2 T_h U_h h hK_19 hK_36
    refine k_iload_n C dX5_collapse_4 2 rfl rfl 5 rfl ?_
    refine k_bipush C dX5_collapse_5 (by decide) 7 rfl ?_
    obtain ⟨hr7a, h⟩ := h
    obtain ⟨ht, hf⟩ := h
    refine k_icmp_ge C dX5_collapse_7 ⟨hr7a, (by decide)⟩ 36 10 (by decide) rfl (fun hc7 => ?_) (fun hc7 => ?_)
    · have h := ht hc7; clear ht hf
      refine k_lv C [1] [(1, .int (iI x1))] rfl ?_
      exact hK_36 x1 T_h U_h h
    · have h := hf hc7; clear ht hf
      refine k_aload_n C dX5_collapse_10 0 rfl rfl 11 rfl ?_
      have hM := c_X5_fallingNow (l := l) (D := D) (cI := cI) (cJ := cJ) (cZ := cZ) qh S_h T_h U_h _ h
      refine k_callV C dX5_collapse_11 hM gX5_collapse_X5_fallingNow rfl sg_X5_fallingNow 5 rfl rfl rfl (Nat.le_of_ble_eq_true rfl) ⟨⟨rfl, rfl⟩, by decide, by decide⟩ ⟨Nat.le_refl 0, Nat.le_refl 0⟩ [0, 1, 2, 3, 4, 5, 6, 7, 8] [] rfl rfl rfl rfl (by decide) 0 0 ⟨rfl, rfl⟩ 14 rfl (fun v w1 hq11 => ?_)
      obtain ⟨r11, U_h_11, rfl, rfl, h⟩ := hq11
      refine k_perm C [0, 1, 2, 3, 4, 5, 6, 7, 8] [.int (iI r11)] ((wdW cI cJ cZ qh S_h T_h U_h_11)) rfl rfl rfl ?_
      refine k_istore_n C dX5_collapse_14 rfl (by decide) [(3, .int (iI r11)), (0, .ref (qh 0)), (1, .int (iI x1)), (2, .int (iI x2))] rfl 15 rfl ?_
      refine k_iload_n C dX5_collapse_15 0 rfl rfl 16 rfl ?_
      obtain ⟨hr16a, h⟩ := h
      obtain ⟨ht, hf⟩ := h
      refine k_if_ne C dX5_collapse_16 hr16a 21 19 (by decide) rfl (fun hc16 => ?_) (fun hc16 => ?_)
      · have h := ht hc16; clear ht hf
        refine k_aload_n C dX5_collapse_21 1 rfl rfl 22 rfl ?_
        refine k_iload_n C dX5_collapse_22 0 rfl rfl 23 rfl ?_
        have hM := c_X5_liftAll (l := l) (D := D) (cI := cI) (cJ := cJ) (cZ := cZ) qh S_h T_h U_h_11 r11 _ h
        refine k_callV C dX5_collapse_23 hM gX5_collapse_X5_liftAll rfl sg_X5_liftAll 5 rfl rfl rfl (Nat.le_of_ble_eq_true rfl) ⟨⟨rfl, rfl⟩, by decide, by decide⟩ ⟨Nat.le_refl 0, Nat.le_refl 0⟩ [0, 1, 2, 3, 4, 5, 6, 7, 8] [] rfl rfl rfl rfl (by decide) 0 0 ⟨rfl, rfl⟩ 26 rfl (fun v w1 hq23 => ?_)
        obtain ⟨T_h_23, rfl, rfl, h⟩ := hq23
        refine k_perm C [0, 1, 2, 3, 4, 5, 6, 7, 8] [] ((wdW cI cJ cZ qh S_h T_h_23 U_h_11)) rfl rfl rfl ?_
        refine k_iload_n C dX5_collapse_26 2 rfl rfl 27 rfl ?_
        refine k_iload_n C dX5_collapse_27 0 rfl rfl 28 rfl ?_
        refine k_ior C dX5_collapse_28 29 rfl ?_
        refine k_istore_n C dX5_collapse_29 rfl (by decide) [(1, .int (iI (ior x1 r11))), (3, .int (iI r11)), (0, .ref (qh 0)), (2, .int (iI x2))] rfl 30 rfl ?_
        refine k_iinc (j := 3) C dX5_collapse_30 rfl (by decide) [(2, .int (iI (x2 + 1))), (1, .int (iI (ior x1 r11))), (3, .int (iI r11)), (0, .ref (qh 0))] rfl 33 rfl ?_
        refine k_goto C dX5_collapse_33 4 (by decide) ?_
        refine k_lv C [3, 1, 0] [(0, .ref (qh 0)), (1, .int (iI (ior x1 r11))), (2, .int (iI (x2 + 1)))] rfl ?_
        exact ih (ior x1 r11) (x2 + 1) T_h_23 U_h_11 h hK_19 hK_36
      · have h := hf hc16; clear ht hf
        refine k_lv C [2] [(1, .int (iI x1))] rfl ?_
        exact hK_19 x1 T_h U_h_11 h
set_option maxHeartbeats 4000000 in
set_option maxRecDepth 20000 in
theorem c_X5_collapse {l : Launch} {D : va_G} {cI cJ cZ : ClassId} (qh : Nat → Nat) (S_h : gWS) (T_h : gWT) (U_h : gWU) (Q : Int → gWT → gWU → Prop) (h : wp_X5_collapse S_h T_h U_h Q) : KM l D (kT cI cJ cZ) 0 0 yX5_collapse wsX5_collapse rm_X5_collapse [.ref (qh 0)] ((wdW cI cJ cZ qh S_h T_h U_h)) (rp_X5_collapse cI cJ cZ qh S_h Q) := by
  refine KM_intro (lv := [(0, .ref (qh 0))]) false rfl (by decide) (Nat.le_of_ble_eq_true rfl) rfl (fun h => absurd h (by decide)) (fun v ws hq => by obtain ⟨r, T_h, U_h, rfl, rfl, _⟩ := hq; exact Or.inr (Or.inl ⟨rfl, _, rfl⟩)) (fun A K C => ?_)
  refine k_iconst C dX5_collapse_0 1 rfl ?_
  refine k_istore_n C dX5_collapse_1 rfl (by decide) [(1, .int (iI 0)), (0, .ref (qh 0))] rfl 2 rfl ?_
  refine k_iconst C dX5_collapse_2 3 rfl ?_
  refine k_istore_n C dX5_collapse_3 rfl (by decide) [(2, .int (iI 0)), (1, .int (iI 0)), (0, .ref (qh 0))] rfl 4 rfl ?_
  refine k_lv C [2, 1, 0] [(0, .ref (qh 0)), (1, .int (iI 0)), (2, .int (iI 0))] rfl ?_
  obtain ⟨m4, h⟩ := h
  refine w_X5_collapse_4 C m4 0 0 T_h U_h h (fun x1 T_h U_h h => ?_) (fun x1 T_h U_h h => ?_)
  · refine k_iload_n C dX5_collapse_19 0 rfl rfl 20 rfl ?_
    exact k_iret C dX5_collapse_20 ⟨x1, T_h, U_h, rfl, rfl, h⟩
  · refine k_iload_n C dX5_collapse_36 0 rfl rfl 37 rfl ?_
    exact k_iret C dX5_collapse_37 ⟨x1, T_h, U_h, rfl, rfl, h⟩

/-! X5_areSideBySide -/
abbrev rm_X5_areSideBySide : Room := { frames := 2, cells := 0, slots := 0, locals := 64 }
theorem sg_X5_areSideBySide : yX5_areSideBySide.cls ≠ "java/lang/invoke/MethodHandle" ∧ yX5_areSideBySide.cls ≠ "java/lang/invoke/VarHandle" ∧ (parseMethodDescriptor yX5_areSideBySide.desc).map (fun d => d.parameters.length) = some 2 := by decide +kernel
theorem hin_X5_areSideBySide_5 : ∀ w ∈ wsX50, w ∈ wsX5_areSideBySide := fun _ h => List.mem_cons_of_mem _ (List.mem_append_right _ h)
def rp_X5_areSideBySide (cI cJ cZ : ClassId) (qh : Nat → Nat) (S_h : gWS) (T_h : gWT) (U_h : gWU) (Q : Int → Prop) : Option Value → va_W → Prop := fun v w1 => ∃ (r : Int), v = some (.int (iI r)) ∧ w1 = (wdW cI cJ cZ qh S_h T_h U_h) ∧ (r = 0 ∨ r = 1) ∧ Q r
def wp_X5_areSideBySide (S_h : gWS) (T_h : gWT) (x1 : Int) (x2 : Int) (Q : Int → Prop) : Prop :=
    wp_X5_isLaid T_h x1 (fun (r2 : Int) => ((r2 = 0 → Q 0) ∧ (¬ (r2 = 0) → wp_X5_isLaid T_h x2 (fun (r10 : Int) => ((¬ r10 = 0 → wp_X6_at 10 T_h.2.2.1 x1 (fun (r23 : Int) => wp_X6_at 10 S_h.2.2.1 x1 (fun (r33 : Int) => wp_X6_at 10 T_h.2.2.1 x2 (fun (r44 : Int) => wp_X6_at 10 S_h.2.2.1 x2 (fun (r56 : Int) => wp_X6_at 10 T_h.2.1 x1 (fun (r67 : Int) => wp_X6_at 10 T_h.2.1 x2 (fun (r75 : Int) => rI (r67 - r75) ∧ rI (iabs (r67 - r75)) ∧ ((¬ (iabs (r67 - r75)) = 0 → ((¬ (iabs (r67 - r75)) = 1 → Q 0) ∧ (¬ (¬ (iabs (r67 - r75)) = 1) → rI r23 ∧ rI (r44 + r56) ∧ (((r44 + r56) ≤ r23 → Q 0) ∧ (¬ ((r44 + r56) ≤ r23) → rI r44 ∧ rI (r23 + r33) ∧ (((r23 + r33) ≤ r44 → Q 0) ∧ (¬ ((r23 + r33) ≤ r44) → Q 1))))))) ∧ (¬ (¬ (iabs (r67 - r75)) = 0) → rI (r23 + r33) ∧ rI r44 ∧ (((r23 + r33) = r44 → Q 1) ∧ (¬ ((r23 + r33) = r44) → rI (r44 + r56) ∧ rI r23 ∧ ((¬ (r44 + r56) = r23 → Q 0) ∧ (¬ (¬ (r44 + r56) = r23) → Q 1))))))))))))) ∧ (¬ (¬ r10 = 0) → Q 0))))))

set_option maxHeartbeats 4000000 in
set_option maxRecDepth 20000 in
theorem c_X5_areSideBySide {l : Launch} {D : va_G} {cI cJ cZ : ClassId} (qh : Nat → Nat) (S_h : gWS) (T_h : gWT) (U_h : gWU) (x1 : Int) (x2 : Int) (Q : Int → Prop) (h : wp_X5_areSideBySide S_h T_h x1 x2 Q) : KM l D (kT cI cJ cZ) 0 0 yX5_areSideBySide wsX5_areSideBySide rm_X5_areSideBySide [.ref (qh 0), .int (iI x1), .int (iI x2)] ((wdW cI cJ cZ qh S_h T_h U_h)) (rp_X5_areSideBySide cI cJ cZ qh S_h T_h U_h Q) := by
  refine KM_intro (lv := [(0, .ref (qh 0)), (1, .int (iI x1)), (2, .int (iI x2))]) false rfl (by decide) (Nat.le_of_ble_eq_true rfl) rfl (fun h => absurd h (by decide)) (fun v ws hq => by obtain ⟨r, rfl, rfl, hb, _⟩ := hq; exact Or.inr (Or.inr (Or.inl ⟨rfl, by rcases hb with rfl | rfl; exact Or.inl rfl; exact Or.inr rfl⟩))) (fun A K C => ?_)
  refine k_aload_n C dX5_areSideBySide_0 0 rfl rfl 1 rfl ?_
  refine k_iload_n C dX5_areSideBySide_1 1 rfl rfl 2 rfl ?_
  have hM := c_X5_isLaid (l := l) (D := D) (cI := cI) (cJ := cJ) (cZ := cZ) qh S_h T_h U_h x1 _ h
  refine k_callV C dX5_areSideBySide_2 hM gX5_areSideBySide_X5_isLaid rfl sg_X5_isLaid 5 rfl rfl rfl (Nat.le_of_ble_eq_true rfl) ⟨⟨rfl, rfl⟩, by decide, by decide⟩ ⟨Nat.le_refl 0, Nat.le_refl 0⟩ [0, 1, 2, 3, 4, 5, 6, 7, 8] [] rfl rfl rfl rfl (by decide) 0 0 ⟨rfl, rfl⟩ 5 rfl (fun v w1 hq2 => ?_)
  obtain ⟨r2, rfl, rfl, hb2, h⟩ := hq2
  refine k_perm C [0, 1, 2, 3, 4, 5, 6, 7, 8] [.int (iI r2)] ((wdW cI cJ cZ qh S_h T_h U_h)) rfl rfl rfl ?_
  obtain ⟨ht, hf⟩ := h
  refine k_if_eq C dX5_areSideBySide_5 (by rcases hb2 with rfl | rfl <;> decide) 16 8 (by decide) rfl (fun hc5 => ?_) (fun hc5 => ?_)
  · have h := ht hc5; clear ht hf
    refine k_iconst C dX5_areSideBySide_16 17 rfl ?_
    exact k_iret C dX5_areSideBySide_17 ⟨0, rfl, rfl, (by decide), h⟩
  · have h := hf hc5; clear ht hf
    refine k_aload_n C dX5_areSideBySide_8 0 rfl rfl 9 rfl ?_
    refine k_iload_n C dX5_areSideBySide_9 2 rfl rfl 10 rfl ?_
    have hM := c_X5_isLaid (l := l) (D := D) (cI := cI) (cJ := cJ) (cZ := cZ) qh S_h T_h U_h x2 _ h
    refine k_callV C dX5_areSideBySide_10 hM gX5_areSideBySide_X5_isLaid rfl sg_X5_isLaid 5 rfl rfl rfl (Nat.le_of_ble_eq_true rfl) ⟨⟨rfl, rfl⟩, by decide, by decide⟩ ⟨Nat.le_refl 0, Nat.le_refl 0⟩ [0, 1, 2, 3, 4, 5, 6, 7, 8] [] rfl rfl rfl rfl (by decide) 0 0 ⟨rfl, rfl⟩ 13 rfl (fun v w1 hq10 => ?_)
    obtain ⟨r10, rfl, rfl, hb10, h⟩ := hq10
    refine k_perm C [0, 1, 2, 3, 4, 5, 6, 7, 8] [.int (iI r10)] ((wdW cI cJ cZ qh S_h T_h U_h)) rfl rfl rfl ?_
    obtain ⟨ht, hf⟩ := h
    refine k_if_ne C dX5_areSideBySide_13 (by rcases hb10 with rfl | rfl <;> decide) 18 16 (by decide) rfl (fun hc13 => ?_) (fun hc13 => ?_)
    · have h := ht hc13; clear ht hf
      refine k_aload_n C dX5_areSideBySide_18 0 rfl rfl 19 rfl ?_
      refine k_get C dX5_areSideBySide_19 0 rfl (ci := 5) rfl hin_X5_areSideBySide_5 7 (by decide) (List.mem_of_getElem? (i := 1) rfl) rfl 22 rfl ?_
      refine k_iload_n C dX5_areSideBySide_22 1 rfl rfl 23 rfl ?_
      have hM := c_X6_at (l := l) (D := D) (cI := cI) (cJ := cJ) (cZ := cZ) (qh 5) 10 (by decide) T_h.2.2.1 x1 _ h
      refine k_callNS C dX5_areSideBySide_23 hM gX5_areSideBySide_X6_at_n71 (List.mem_of_getElem? (i := 37) rfl) (List.mem_of_getElem? (i := 15) rfl) rfl sg_X6_at (List.mem_of_getElem? (i := 17) rfl) rfl (Nat.le_of_ble_eq_true rfl) ⟨⟨rfl, rfl⟩, by decide, by decide⟩ ⟨Nat.le_refl 0, Nat.le_refl 0⟩ [5] [0, 1, 2, 3, 4, 6, 7, 8] rfl rfl rfl rfl (by decide) 0 0 ⟨rfl, rfl⟩ 26 rfl (fun v w1 hq23 => ?_)
      obtain ⟨r23, rfl, rfl, h⟩ := hq23
      refine k_perm C [0, 1, 2, 3, 4, 8, 5, 6, 7] [.int (iI r23)] ((wdW cI cJ cZ qh S_h T_h U_h)) rfl rfl rfl ?_
      refine k_istore_n C dX5_areSideBySide_26 rfl (by decide) [(3, .int (iI r23)), (0, .ref (qh 0)), (1, .int (iI x1)), (2, .int (iI x2))] rfl 27 rfl ?_
      refine k_iload_n C dX5_areSideBySide_27 0 rfl rfl 28 rfl ?_
      refine k_aload_n C dX5_areSideBySide_28 1 rfl rfl 29 rfl ?_
      refine k_get C dX5_areSideBySide_29 0 rfl (ci := 5) rfl hin_X5_areSideBySide_5 3 (by decide) (List.mem_of_getElem? (i := 2) rfl) rfl 32 rfl ?_
      refine k_iload_n C dX5_areSideBySide_32 2 rfl rfl 33 rfl ?_
      have hM := c_X6_at (l := l) (D := D) (cI := cI) (cJ := cJ) (cZ := cZ) (qh 1) 10 (by decide) S_h.2.2.1 x1 _ h
      refine k_callNS C dX5_areSideBySide_33 hM gX5_areSideBySide_X6_at_n71 (List.mem_of_getElem? (i := 37) rfl) (List.mem_of_getElem? (i := 15) rfl) rfl sg_X6_at (List.mem_of_getElem? (i := 17) rfl) rfl (Nat.le_of_ble_eq_true rfl) ⟨⟨rfl, rfl⟩, by decide, by decide⟩ ⟨Nat.le_refl 0, Nat.le_refl 0⟩ [1] [0, 2, 3, 4, 5, 6, 7, 8] rfl rfl rfl rfl (by decide) 0 0 ⟨rfl, rfl⟩ 36 rfl (fun v w1 hq33 => ?_)
      obtain ⟨r33, rfl, rfl, h⟩ := hq33
      refine k_perm C [0, 8, 1, 2, 3, 4, 5, 6, 7] [.int (iI r33), .int (iI r23)] ((wdW cI cJ cZ qh S_h T_h U_h)) rfl rfl rfl ?_
      refine k_iadd C dX5_areSideBySide_36 37 rfl ?_
      refine k_istore C dX5_areSideBySide_37 (by decide) [(4, .int (iI (r23 + r33))), (3, .int (iI r23)), (0, .ref (qh 0)), (1, .int (iI x1)), (2, .int (iI x2))] rfl 39 rfl ?_
      refine k_aload_n C dX5_areSideBySide_39 2 rfl rfl 40 rfl ?_
      refine k_get C dX5_areSideBySide_40 0 rfl (ci := 5) rfl hin_X5_areSideBySide_5 7 (by decide) (List.mem_of_getElem? (i := 1) rfl) rfl 43 rfl ?_
      refine k_iload_n C dX5_areSideBySide_43 4 rfl rfl 44 rfl ?_
      have hM := c_X6_at (l := l) (D := D) (cI := cI) (cJ := cJ) (cZ := cZ) (qh 5) 10 (by decide) T_h.2.2.1 x2 _ h
      refine k_callNS C dX5_areSideBySide_44 hM gX5_areSideBySide_X6_at_n71 (List.mem_of_getElem? (i := 37) rfl) (List.mem_of_getElem? (i := 15) rfl) rfl sg_X6_at (List.mem_of_getElem? (i := 17) rfl) rfl (Nat.le_of_ble_eq_true rfl) ⟨⟨rfl, rfl⟩, by decide, by decide⟩ ⟨Nat.le_refl 0, Nat.le_refl 0⟩ [5] [0, 1, 2, 3, 4, 6, 7, 8] rfl rfl rfl rfl (by decide) 0 0 ⟨rfl, rfl⟩ 47 rfl (fun v w1 hq44 => ?_)
      obtain ⟨r44, rfl, rfl, h⟩ := hq44
      refine k_perm C [0, 1, 2, 3, 4, 8, 5, 6, 7] [.int (iI r44)] ((wdW cI cJ cZ qh S_h T_h U_h)) rfl rfl rfl ?_
      refine k_istore C dX5_areSideBySide_47 (by decide) [(5, .int (iI r44)), (4, .int (iI (r23 + r33))), (3, .int (iI r23)), (0, .ref (qh 0)), (1, .int (iI x1)), (2, .int (iI x2))] rfl 49 rfl ?_
      refine k_iload C dX5_areSideBySide_49 0 rfl 51 rfl ?_
      refine k_aload_n C dX5_areSideBySide_51 3 rfl rfl 52 rfl ?_
      refine k_get C dX5_areSideBySide_52 0 rfl (ci := 5) rfl hin_X5_areSideBySide_5 3 (by decide) (List.mem_of_getElem? (i := 2) rfl) rfl 55 rfl ?_
      refine k_iload_n C dX5_areSideBySide_55 5 rfl rfl 56 rfl ?_
      have hM := c_X6_at (l := l) (D := D) (cI := cI) (cJ := cJ) (cZ := cZ) (qh 1) 10 (by decide) S_h.2.2.1 x2 _ h
      refine k_callNS C dX5_areSideBySide_56 hM gX5_areSideBySide_X6_at_n71 (List.mem_of_getElem? (i := 37) rfl) (List.mem_of_getElem? (i := 15) rfl) rfl sg_X6_at (List.mem_of_getElem? (i := 17) rfl) rfl (Nat.le_of_ble_eq_true rfl) ⟨⟨rfl, rfl⟩, by decide, by decide⟩ ⟨Nat.le_refl 0, Nat.le_refl 0⟩ [1] [0, 2, 3, 4, 5, 6, 7, 8] rfl rfl rfl rfl (by decide) 0 0 ⟨rfl, rfl⟩ 59 rfl (fun v w1 hq56 => ?_)
      obtain ⟨r56, rfl, rfl, h⟩ := hq56
      refine k_perm C [0, 8, 1, 2, 3, 4, 5, 6, 7] [.int (iI r56), .int (iI r44)] ((wdW cI cJ cZ qh S_h T_h U_h)) rfl rfl rfl ?_
      refine k_iadd C dX5_areSideBySide_59 60 rfl ?_
      refine k_istore C dX5_areSideBySide_60 (by decide) [(6, .int (iI (r44 + r56))), (5, .int (iI r44)), (4, .int (iI (r23 + r33))), (3, .int (iI r23)), (0, .ref (qh 0)), (1, .int (iI x1)), (2, .int (iI x2))] rfl 62 rfl ?_
      refine k_aload_n C dX5_areSideBySide_62 4 rfl rfl 63 rfl ?_
      refine k_get C dX5_areSideBySide_63 0 rfl (ci := 5) rfl hin_X5_areSideBySide_5 6 (by decide) (List.mem_of_getElem? (i := 3) rfl) rfl 66 rfl ?_
      refine k_iload_n C dX5_areSideBySide_66 5 rfl rfl 67 rfl ?_
      have hM := c_X6_at (l := l) (D := D) (cI := cI) (cJ := cJ) (cZ := cZ) (qh 4) 10 (by decide) T_h.2.1 x1 _ h
      refine k_callNS C dX5_areSideBySide_67 hM gX5_areSideBySide_X6_at_n71 (List.mem_of_getElem? (i := 37) rfl) (List.mem_of_getElem? (i := 15) rfl) rfl sg_X6_at (List.mem_of_getElem? (i := 17) rfl) rfl (Nat.le_of_ble_eq_true rfl) ⟨⟨rfl, rfl⟩, by decide, by decide⟩ ⟨Nat.le_refl 0, Nat.le_refl 0⟩ [4] [0, 1, 2, 3, 5, 6, 7, 8] rfl rfl rfl rfl (by decide) 0 0 ⟨rfl, rfl⟩ 70 rfl (fun v w1 hq67 => ?_)
      obtain ⟨r67, rfl, rfl, h⟩ := hq67
      refine k_perm C [0, 1, 2, 3, 8, 4, 5, 6, 7] [.int (iI r67)] ((wdW cI cJ cZ qh S_h T_h U_h)) rfl rfl rfl ?_
      refine k_aload_n C dX5_areSideBySide_70 4 rfl rfl 71 rfl ?_
      refine k_get C dX5_areSideBySide_71 0 rfl (ci := 5) rfl hin_X5_areSideBySide_5 6 (by decide) (List.mem_of_getElem? (i := 3) rfl) rfl 74 rfl ?_
      refine k_iload_n C dX5_areSideBySide_74 6 rfl rfl 75 rfl ?_
      have hM := c_X6_at (l := l) (D := D) (cI := cI) (cJ := cJ) (cZ := cZ) (qh 4) 10 (by decide) T_h.2.1 x2 _ h
      refine k_callNS C dX5_areSideBySide_75 hM gX5_areSideBySide_X6_at_n71 (List.mem_of_getElem? (i := 37) rfl) (List.mem_of_getElem? (i := 15) rfl) rfl sg_X6_at (List.mem_of_getElem? (i := 17) rfl) rfl (Nat.le_of_ble_eq_true rfl) ⟨⟨rfl, rfl⟩, by decide, by decide⟩ ⟨Nat.le_refl 0, Nat.le_refl 0⟩ [4] [0, 1, 2, 3, 5, 6, 7, 8] rfl rfl rfl rfl (by decide) 0 0 ⟨rfl, rfl⟩ 78 rfl (fun v w1 hq75 => ?_)
      obtain ⟨r75, rfl, rfl, h⟩ := hq75
      refine k_perm C [0, 1, 2, 3, 8, 4, 5, 6, 7] [.int (iI r75), .int (iI r67)] ((wdW cI cJ cZ qh S_h T_h U_h)) rfl rfl rfl ?_
      refine k_isub C dX5_areSideBySide_78 79 rfl ?_
      obtain ⟨hr79a, h⟩ := h
      refine k_mabs C dX5_areSideBySide_79 (List.mem_of_getElem? (i := 4) rfl) (List.mem_of_getElem? (i := 5) rfl) (List.mem_of_getElem? (i := 6) rfl) (List.mem_of_getElem? (i := 7) rfl) (by decide) (Nat.le_of_ble_eq_true rfl) ⟨Nat.zero_le _, Nat.zero_le _⟩ hr79a 82 rfl ?_
      refine k_istore C dX5_areSideBySide_82 (by decide) [(7, .int (iI (iabs (r67 - r75)))), (6, .int (iI (r44 + r56))), (5, .int (iI r44)), (4, .int (iI (r23 + r33))), (3, .int (iI r23)), (0, .ref (qh 0)), (1, .int (iI x1)), (2, .int (iI x2))] rfl 84 rfl ?_
      refine k_iload C dX5_areSideBySide_84 0 rfl 86 rfl ?_
      obtain ⟨hr86a, h⟩ := h
      obtain ⟨ht, hf⟩ := h
      refine k_if_ne C dX5_areSideBySide_86 hr86a 108 89 (by decide) rfl (fun hc86 => ?_) (fun hc86 => ?_)
      · have h := ht hc86; clear ht hf
        refine k_iload C dX5_areSideBySide_108 0 rfl 110 rfl ?_
        refine k_iconst C dX5_areSideBySide_110 111 rfl ?_
        obtain ⟨ht, hf⟩ := h
        refine k_icmp_ne C dX5_areSideBySide_111 ⟨hr86a, (by decide)⟩ 131 114 (by decide) rfl (fun hc111 => ?_) (fun hc111 => ?_)
        · have h := ht hc111; clear ht hf
          refine k_iconst C dX5_areSideBySide_131 132 rfl ?_
          exact k_iret C dX5_areSideBySide_132 ⟨0, rfl, rfl, (by decide), h⟩
        · have h := hf hc111; clear ht hf
          refine k_iload_n C dX5_areSideBySide_114 4 rfl rfl 115 rfl ?_
          refine k_iload C dX5_areSideBySide_115 1 rfl 117 rfl ?_
          obtain ⟨hr117a, hr117b, h⟩ := h
          obtain ⟨ht, hf⟩ := h
          refine k_icmp_ge C dX5_areSideBySide_117 ⟨hr117a, hr117b⟩ 131 120 (by decide) rfl (fun hc117 => ?_) (fun hc117 => ?_)
          · have h := ht hc117; clear ht hf
            refine k_iconst C dX5_areSideBySide_131 132 rfl ?_
            exact k_iret C dX5_areSideBySide_132 ⟨0, rfl, rfl, (by decide), h⟩
          · have h := hf hc117; clear ht hf
            refine k_iload C dX5_areSideBySide_120 2 rfl 122 rfl ?_
            refine k_iload C dX5_areSideBySide_122 3 rfl 124 rfl ?_
            obtain ⟨hr124a, hr124b, h⟩ := h
            obtain ⟨ht, hf⟩ := h
            refine k_icmp_ge C dX5_areSideBySide_124 ⟨hr124a, hr124b⟩ 131 127 (by decide) rfl (fun hc124 => ?_) (fun hc124 => ?_)
            · have h := ht hc124; clear ht hf
              refine k_iconst C dX5_areSideBySide_131 132 rfl ?_
              exact k_iret C dX5_areSideBySide_132 ⟨0, rfl, rfl, (by decide), h⟩
            · have h := hf hc124; clear ht hf
              refine k_iconst C dX5_areSideBySide_127 128 rfl ?_
              refine k_goto C dX5_areSideBySide_128 132 (by decide) ?_
              exact k_iret C dX5_areSideBySide_132 ⟨1, rfl, rfl, (by decide), h⟩
      · have h := hf hc86; clear ht hf
        refine k_iload C dX5_areSideBySide_89 3 rfl 91 rfl ?_
        refine k_iload C dX5_areSideBySide_91 2 rfl 93 rfl ?_
        obtain ⟨hr93a, hr93b, h⟩ := h
        obtain ⟨ht, hf⟩ := h
        refine k_icmp_eq C dX5_areSideBySide_93 ⟨hr93a, hr93b⟩ 102 96 (by decide) rfl (fun hc93 => ?_) (fun hc93 => ?_)
        · have h := ht hc93; clear ht hf
          refine k_iconst C dX5_areSideBySide_102 103 rfl ?_
          refine k_goto C dX5_areSideBySide_103 107 (by decide) ?_
          exact k_iret C dX5_areSideBySide_107 ⟨1, rfl, rfl, (by decide), h⟩
        · have h := hf hc93; clear ht hf
          refine k_iload C dX5_areSideBySide_96 1 rfl 98 rfl ?_
          refine k_iload_n C dX5_areSideBySide_98 4 rfl rfl 99 rfl ?_
          obtain ⟨hr99a, hr99b, h⟩ := h
          obtain ⟨ht, hf⟩ := h
          refine k_icmp_ne C dX5_areSideBySide_99 ⟨hr99a, hr99b⟩ 106 102 (by decide) rfl (fun hc99 => ?_) (fun hc99 => ?_)
          · have h := ht hc99; clear ht hf
            refine k_iconst C dX5_areSideBySide_106 107 rfl ?_
            exact k_iret C dX5_areSideBySide_107 ⟨0, rfl, rfl, (by decide), h⟩
          · have h := hf hc99; clear ht hf
            refine k_iconst C dX5_areSideBySide_102 103 rfl ?_
            refine k_goto C dX5_areSideBySide_103 107 (by decide) ?_
            exact k_iret C dX5_areSideBySide_107 ⟨1, rfl, rfl, (by decide), h⟩
    · have h := hf hc13; clear ht hf
      refine k_iconst C dX5_areSideBySide_16 17 rfl ?_
      exact k_iret C dX5_areSideBySide_17 ⟨0, rfl, rfl, (by decide), h⟩

/-! X5_emptyCells -/
abbrev rm_X5_emptyCells : Room := { frames := 1, cells := 0, slots := 0, locals := 21 }
theorem sg_X5_emptyCells : yX5_emptyCells.cls ≠ "java/lang/invoke/MethodHandle" ∧ yX5_emptyCells.cls ≠ "java/lang/invoke/VarHandle" ∧ (parseMethodDescriptor yX5_emptyCells.desc).map (fun d => d.parameters.length) = some 1 := by decide +kernel
theorem hin_X5_emptyCells_5 : ∀ w ∈ wsX50, w ∈ wsX5_emptyCells := fun _ h => List.mem_cons_of_mem _ (List.mem_append_right _ h)
def rp_X5_emptyCells (cI cJ cZ : ClassId) (qh : Nat → Nat) (S_h : gWS) (T_h : gWT) (U_h : gWU) (Q : Int → Prop) : Option Value → va_W → Prop := fun v w1 => ∃ (r : Int), v = some (.int (iI r)) ∧ w1 = (wdW cI cJ cZ qh S_h T_h U_h) ∧ Q r
def wp_X5_emptyCells_14 (T_h : gWT) (K_45 : Int → Prop)  (Q : Int → Prop) : Nat → Int → Int → Int → Int → Prop
  | 0, _, _, _, _ => False
  | n14 + 1, x1, x2, x3, x4 =>
    rI x4 ∧ rI x3 ∧ ((x3 ≤ x4 → K_45 x2) ∧ (¬ (x3 ≤ x4) → wp_X5_cellAt x4 x1 (fun (r27 : Int) => wp_X6_at 90 T_h.2.2.2.1 r27 (fun (r30 : Int) => rI r30 ∧ ((¬ r30 = 0 → wp_X5_emptyCells_14 T_h K_45 Q n14 x1 x2 x3 (x4 + 1)) ∧ (¬ (¬ r30 = 0) → wp_X5_emptyCells_14 T_h K_45 Q n14 x1 (x2 + 1) x3 (x4 + 1)))))))
def wp_X5_emptyCells (T_h : gWT) (x1 : Int) (Q : Int → Prop) : Prop :=
    wp_X6_at 9 T_h.2.2.2.2 x1 (fun (r7 : Int) => ∃ m14, wp_X5_emptyCells_14 T_h (fun (x2 : Int) => Q x2) Q m14 x1 0 r7 0)
set_option maxHeartbeats 4000000 in
set_option maxRecDepth 20000 in
theorem w_X5_emptyCells_14 {l : Launch} {D : va_G} {cI cJ cZ : ClassId} {A : Nat → Prop} {K : KT} {qh : Nat → Nat} {S_h : gWS} {T_h : gWT} {U_h : gWU} {Q : Int → Prop} {K_45 : Int → Prop} (C : KC cX5_emptyCells yX5_emptyCells.cls wsX5_emptyCells rm_X5_emptyCells 5 D (kT cI cJ cZ) A l false (rp_X5_emptyCells cI cJ cZ qh S_h T_h U_h Q) 0 0 K) : ∀ (n : Nat) (x1 : Int) (x2 : Int) (x3 : Int) (x4 : Int), wp_X5_emptyCells_14 T_h K_45 Q n x1 x2 x3 x4 → (∀ (x2 : Int), K_45 x2 → K 0 0 45 [(2, .int (iI x2))] [] ((wdW cI cJ cZ qh S_h T_h U_h))) → K 0 0 14 [(0, .ref (qh 0)), (1, .int (iI x1)), (2, .int (iI x2)), (3, .int (iI x3)), (4, .int (iI x4))] [] ((wdW cI cJ cZ qh S_h T_h U_h)) := by
  intro n
  induction n with
  | zero => intro x1 x2 x3 x4 h; exact h.elim
  | succ n ih =>
    intro x1 x2 x3 x4 h hK_45
    refine k_iload C dX5_emptyCells_14 4 rfl 16 rfl ?_
    refine k_iload_n C dX5_emptyCells_16 3 rfl rfl 17 rfl ?_
    obtain ⟨hr17a, hr17b, h⟩ := h
    obtain ⟨ht, hf⟩ := h
    refine k_icmp_ge C dX5_emptyCells_17 ⟨hr17a, hr17b⟩ 45 20 (by decide) rfl (fun hc17 => ?_) (fun hc17 => ?_)
    · have h := ht hc17; clear ht hf
      refine k_lv C [2] [(2, .int (iI x2))] rfl ?_
      exact hK_45 x2 h
    · have h := hf hc17; clear ht hf
      refine k_aload_n C dX5_emptyCells_20 0 rfl rfl 21 rfl ?_
      refine k_get C dX5_emptyCells_21 0 rfl (ci := 5) rfl hin_X5_emptyCells_5 8 (by decide) (List.mem_of_getElem? (i := 2) rfl) rfl 24 rfl ?_
      refine k_iload C dX5_emptyCells_24 4 rfl 26 rfl ?_
      refine k_iload_n C dX5_emptyCells_26 1 rfl rfl 27 rfl ?_
      have hM := c_X5_cellAt (l := l) (D := D) (cI := cI) (cJ := cJ) (cZ := cZ) x4 x1 _ h
      refine k_callS C dX5_emptyCells_27 hM gX5_emptyCells_X5_cellAt rfl sg_X5_cellAt rfl (Nat.le_of_ble_eq_true rfl) ⟨⟨rfl, rfl⟩, by decide, by decide⟩ ⟨Nat.le_refl 0, Nat.le_refl 0⟩ [] [0, 1, 2, 3, 4, 5, 6, 7, 8] rfl rfl rfl rfl (by decide) 0 0 ⟨rfl, rfl⟩ 30 rfl (fun v w1 hq27 => ?_)
      obtain ⟨r27, rfl, rfl, h⟩ := hq27
      refine k_perm C [0, 1, 2, 3, 4, 5, 6, 7, 8] [.int (iI r27), .ref (qh 6)] ((wdW cI cJ cZ qh S_h T_h U_h)) rfl rfl rfl ?_
      have hM := c_X6_at (l := l) (D := D) (cI := cI) (cJ := cJ) (cZ := cZ) (qh 6) 90 (by decide) T_h.2.2.2.1 r27 _ h
      refine k_callNS C dX5_emptyCells_30 hM gX5_emptyCells_X6_at_n71 (List.mem_of_getElem? (i := 37) rfl) (List.mem_of_getElem? (i := 4) rfl) rfl sg_X6_at (List.mem_of_getElem? (i := 3) rfl) rfl (Nat.le_of_ble_eq_true rfl) ⟨⟨rfl, rfl⟩, by decide, by decide⟩ ⟨Nat.le_refl 0, Nat.le_refl 0⟩ [6] [0, 1, 2, 3, 4, 5, 7, 8] rfl rfl rfl rfl (by decide) 0 0 ⟨rfl, rfl⟩ 33 rfl (fun v w1 hq30 => ?_)
      obtain ⟨r30, rfl, rfl, h⟩ := hq30
      refine k_perm C [0, 1, 2, 3, 4, 5, 8, 6, 7] [.int (iI r30)] ((wdW cI cJ cZ qh S_h T_h U_h)) rfl rfl rfl ?_
      obtain ⟨hr33a, h⟩ := h
      obtain ⟨ht, hf⟩ := h
      refine k_if_ne C dX5_emptyCells_33 hr33a 39 36 (by decide) rfl (fun hc33 => ?_) (fun hc33 => ?_)
      · have h := ht hc33; clear ht hf
        refine k_iinc (j := 4) C dX5_emptyCells_39 rfl (by decide) [(4, .int (iI (x4 + 1))), (0, .ref (qh 0)), (1, .int (iI x1)), (2, .int (iI x2)), (3, .int (iI x3))] rfl 42 rfl ?_
        refine k_goto C dX5_emptyCells_42 14 (by decide) ?_
        refine k_lv C [1, 2, 3, 4, 0] [(0, .ref (qh 0)), (1, .int (iI x1)), (2, .int (iI x2)), (3, .int (iI x3)), (4, .int (iI (x4 + 1)))] rfl ?_
        exact ih x1 x2 x3 (x4 + 1) h hK_45
      · have h := hf hc33; clear ht hf
        refine k_iinc (j := 2) C dX5_emptyCells_36 rfl (by decide) [(2, .int (iI (x2 + 1))), (0, .ref (qh 0)), (1, .int (iI x1)), (3, .int (iI x3)), (4, .int (iI x4))] rfl 39 rfl ?_
        refine k_iinc (j := 4) C dX5_emptyCells_39 rfl (by decide) [(4, .int (iI (x4 + 1))), (2, .int (iI (x2 + 1))), (0, .ref (qh 0)), (1, .int (iI x1)), (3, .int (iI x3))] rfl 42 rfl ?_
        refine k_goto C dX5_emptyCells_42 14 (by decide) ?_
        refine k_lv C [2, 3, 1, 4, 0] [(0, .ref (qh 0)), (1, .int (iI x1)), (2, .int (iI (x2 + 1))), (3, .int (iI x3)), (4, .int (iI (x4 + 1)))] rfl ?_
        exact ih x1 (x2 + 1) x3 (x4 + 1) h hK_45
set_option maxHeartbeats 4000000 in
set_option maxRecDepth 20000 in
theorem c_X5_emptyCells {l : Launch} {D : va_G} {cI cJ cZ : ClassId} (qh : Nat → Nat) (S_h : gWS) (T_h : gWT) (U_h : gWU) (x1 : Int) (Q : Int → Prop) (h : wp_X5_emptyCells T_h x1 Q) : KM l D (kT cI cJ cZ) 0 0 yX5_emptyCells wsX5_emptyCells rm_X5_emptyCells [.ref (qh 0), .int (iI x1)] ((wdW cI cJ cZ qh S_h T_h U_h)) (rp_X5_emptyCells cI cJ cZ qh S_h T_h U_h Q) := by
  refine KM_intro (lv := [(0, .ref (qh 0)), (1, .int (iI x1))]) false rfl (by decide) (Nat.le_of_ble_eq_true rfl) rfl (fun h => absurd h (by decide)) (fun v ws hq => by obtain ⟨r, rfl, rfl, _⟩ := hq; exact Or.inr (Or.inl ⟨rfl, _, rfl⟩)) (fun A K C => ?_)
  refine k_iconst C dX5_emptyCells_0 1 rfl ?_
  refine k_istore_n C dX5_emptyCells_1 rfl (by decide) [(2, .int (iI 0)), (0, .ref (qh 0)), (1, .int (iI x1))] rfl 2 rfl ?_
  refine k_aload_n C dX5_emptyCells_2 1 rfl rfl 3 rfl ?_
  refine k_get C dX5_emptyCells_3 0 rfl (ci := 5) rfl hin_X5_emptyCells_5 9 (by decide) (List.mem_of_getElem? (i := 1) rfl) rfl 6 rfl ?_
  refine k_iload_n C dX5_emptyCells_6 2 rfl rfl 7 rfl ?_
  have hM := c_X6_at (l := l) (D := D) (cI := cI) (cJ := cJ) (cZ := cZ) (qh 7) 9 (by decide) T_h.2.2.2.2 x1 _ h
  refine k_callNS C dX5_emptyCells_7 hM gX5_emptyCells_X6_at_n71 (List.mem_of_getElem? (i := 37) rfl) (List.mem_of_getElem? (i := 4) rfl) rfl sg_X6_at (List.mem_of_getElem? (i := 3) rfl) rfl (Nat.le_of_ble_eq_true rfl) ⟨⟨rfl, rfl⟩, by decide, by decide⟩ ⟨Nat.le_refl 0, Nat.le_refl 0⟩ [7] [0, 1, 2, 3, 4, 5, 6, 8] rfl rfl rfl rfl (by decide) 0 0 ⟨rfl, rfl⟩ 10 rfl (fun v w1 hq7 => ?_)
  obtain ⟨r7, rfl, rfl, h⟩ := hq7
  refine k_perm C [0, 1, 2, 3, 4, 5, 6, 8, 7] [.int (iI r7)] ((wdW cI cJ cZ qh S_h T_h U_h)) rfl rfl rfl ?_
  refine k_istore_n C dX5_emptyCells_10 rfl (by decide) [(3, .int (iI r7)), (2, .int (iI 0)), (0, .ref (qh 0)), (1, .int (iI x1))] rfl 11 rfl ?_
  refine k_iconst C dX5_emptyCells_11 12 rfl ?_
  refine k_istore C dX5_emptyCells_12 (by decide) [(4, .int (iI 0)), (3, .int (iI r7)), (2, .int (iI 0)), (0, .ref (qh 0)), (1, .int (iI x1))] rfl 14 rfl ?_
  refine k_lv C [3, 4, 2, 1, 0] [(0, .ref (qh 0)), (1, .int (iI x1)), (2, .int (iI 0)), (3, .int (iI r7)), (4, .int (iI 0))] rfl ?_
  obtain ⟨m14, h⟩ := h
  refine w_X5_emptyCells_14 C m14 x1 0 r7 0 h (fun x2 h => ?_)
  · refine k_iload_n C dX5_emptyCells_45 0 rfl rfl 46 rfl ?_
    exact k_iret C dX5_emptyCells_46 ⟨x2, rfl, rfl, h⟩

/-! X6_isOutside -/
abbrev rm_X6_isOutside : Room := { frames := 0, cells := 0, slots := 0, locals := 0 }
theorem sg_X6_isOutside : yX6_isOutside.cls ≠ "java/lang/invoke/MethodHandle" ∧ yX6_isOutside.cls ≠ "java/lang/invoke/VarHandle" ∧ (parseMethodDescriptor yX6_isOutside.desc).map (fun d => d.parameters.length) = some 3 := by decide +kernel
def rp_X6_isOutside (cI cJ cZ : ClassId) (Q : Int → Prop) : Option Value → va_W → Prop := fun v w1 => ∃ (r : Int), v = some (.int (iI r)) ∧ w1 = ([] : va_W) ∧ (r = 0 ∨ r = 1) ∧ Q r
def wp_X6_isOutside (x0 : Int) (x1 : Int) (x2 : Int) (Q : Int → Prop) : Prop :=
    rI x0 ∧ rI x1 ∧ ((x0 < x1 → Q 1) ∧ (¬ (x0 < x1) → rI x2 ∧ ((x0 ≤ x2 → Q 0) ∧ (¬ (x0 ≤ x2) → Q 1))))

set_option maxHeartbeats 4000000 in
set_option maxRecDepth 20000 in
theorem c_X6_isOutside {l : Launch} {D : va_G} {cI cJ cZ : ClassId} (x0 : Int) (x1 : Int) (x2 : Int) (Q : Int → Prop) (h : wp_X6_isOutside x0 x1 x2 Q) : KM l D (kT cI cJ cZ) 0 0 yX6_isOutside wsX6_isOutside rm_X6_isOutside [.int (iI x0), .int (iI x1), .int (iI x2)] (([] : va_W)) (rp_X6_isOutside cI cJ cZ Q) := by
  refine KM_intro (lv := [(0, .int (iI x0)), (1, .int (iI x1)), (2, .int (iI x2))]) false rfl (by decide) (Nat.le_of_ble_eq_true rfl) rfl (fun h => absurd h (by decide)) (fun v ws hq => by obtain ⟨r, rfl, rfl, hb, _⟩ := hq; exact Or.inr (Or.inr (Or.inl ⟨rfl, by rcases hb with rfl | rfl; exact Or.inl rfl; exact Or.inr rfl⟩))) (fun A K C => ?_)
  refine k_iload_n C dX6_isOutside_0 0 rfl rfl 1 rfl ?_
  refine k_iload_n C dX6_isOutside_1 1 rfl rfl 2 rfl ?_
  obtain ⟨hr2a, hr2b, h⟩ := h
  obtain ⟨ht, hf⟩ := h
  refine k_icmp_lt C dX6_isOutside_2 ⟨hr2a, hr2b⟩ 10 5 (by decide) rfl (fun hc2 => ?_) (fun hc2 => ?_)
  · have h := ht hc2; clear ht hf
    refine k_iconst C dX6_isOutside_10 11 rfl ?_
    refine k_goto C dX6_isOutside_11 15 (by decide) ?_
    exact k_iret C dX6_isOutside_15 ⟨1, rfl, rfl, (by decide), h⟩
  · have h := hf hc2; clear ht hf
    refine k_iload_n C dX6_isOutside_5 0 rfl rfl 6 rfl ?_
    refine k_iload_n C dX6_isOutside_6 2 rfl rfl 7 rfl ?_
    obtain ⟨hr7a, h⟩ := h
    obtain ⟨ht, hf⟩ := h
    refine k_icmp_le C dX6_isOutside_7 ⟨hr2a, hr7a⟩ 14 10 (by decide) rfl (fun hc7 => ?_) (fun hc7 => ?_)
    · have h := ht hc7; clear ht hf
      refine k_iconst C dX6_isOutside_14 15 rfl ?_
      exact k_iret C dX6_isOutside_15 ⟨0, rfl, rfl, (by decide), h⟩
    · have h := hf hc7; clear ht hf
      refine k_iconst C dX6_isOutside_10 11 rfl ?_
      refine k_goto C dX6_isOutside_11 15 (by decide) ?_
      exact k_iret C dX6_isOutside_15 ⟨1, rfl, rfl, (by decide), h⟩

/-! J6_bitCount_0f7a4 -/
abbrev rm_J6_bitCount_0f7a4 : Room := { frames := 0, cells := 0, slots := 0, locals := 0 }
theorem sg_J6_bitCount_0f7a4 : yJ6_bitCount_0f7a4.cls ≠ "java/lang/invoke/MethodHandle" ∧ yJ6_bitCount_0f7a4.cls ≠ "java/lang/invoke/VarHandle" ∧ (parseMethodDescriptor yJ6_bitCount_0f7a4.desc).map (fun d => d.parameters.length) = some 1 := by decide +kernel
def rp_J6_bitCount_0f7a4 (cI cJ cZ : ClassId) (Q : Int → Prop) : Option Value → va_W → Prop := fun v w1 => ∃ (r : Int), v = some (.int (iI r)) ∧ w1 = ([] : va_W) ∧ Q r
def wp_J6_bitCount_0f7a4 (x0 : Int) (Q : Int → Prop) : Prop :=
    Q (iand (((iand (((iand (x0 - (iand (iushr x0 1) 1431655765)) 858993459) + (iand (iushr (x0 - (iand (iushr x0 1) 1431655765)) 2) 858993459)) + (iushr ((iand (x0 - (iand (iushr x0 1) 1431655765)) 858993459) + (iand (iushr (x0 - (iand (iushr x0 1) 1431655765)) 2) 858993459)) 4)) 252645135) + (iushr (iand (((iand (x0 - (iand (iushr x0 1) 1431655765)) 858993459) + (iand (iushr (x0 - (iand (iushr x0 1) 1431655765)) 2) 858993459)) + (iushr ((iand (x0 - (iand (iushr x0 1) 1431655765)) 858993459) + (iand (iushr (x0 - (iand (iushr x0 1) 1431655765)) 2) 858993459)) 4)) 252645135) 8)) + (iushr ((iand (((iand (x0 - (iand (iushr x0 1) 1431655765)) 858993459) + (iand (iushr (x0 - (iand (iushr x0 1) 1431655765)) 2) 858993459)) + (iushr ((iand (x0 - (iand (iushr x0 1) 1431655765)) 858993459) + (iand (iushr (x0 - (iand (iushr x0 1) 1431655765)) 2) 858993459)) 4)) 252645135) + (iushr (iand (((iand (x0 - (iand (iushr x0 1) 1431655765)) 858993459) + (iand (iushr (x0 - (iand (iushr x0 1) 1431655765)) 2) 858993459)) + (iushr ((iand (x0 - (iand (iushr x0 1) 1431655765)) 858993459) + (iand (iushr (x0 - (iand (iushr x0 1) 1431655765)) 2) 858993459)) 4)) 252645135) 8)) 16)) 63)

set_option maxHeartbeats 4000000 in
set_option maxRecDepth 20000 in
theorem c_J6_bitCount_0f7a4 {l : Launch} {D : va_G} {cI cJ cZ : ClassId} (x0 : Int) (Q : Int → Prop) (h : wp_J6_bitCount_0f7a4 x0 Q) : KM l D (kT cI cJ cZ) 0 0 yJ6_bitCount_0f7a4 wsJ6_bitCount_0f7a4 rm_J6_bitCount_0f7a4 [.int (iI x0)] (([] : va_W)) (rp_J6_bitCount_0f7a4 cI cJ cZ Q) := by
  refine KM_intro (lv := [(0, .int (iI x0))]) false rfl (by decide) (Nat.le_of_ble_eq_true rfl) rfl (fun h => absurd h (by decide)) (fun v ws hq => by obtain ⟨r, rfl, rfl, _⟩ := hq; exact Or.inr (Or.inl ⟨rfl, _, rfl⟩)) (fun A K C => ?_)
  refine k_iload_n C dJ6_bitCount_0f7a4_0 0 rfl rfl 1 rfl ?_
  refine k_iload_n C dJ6_bitCount_0f7a4_1 0 rfl rfl 2 rfl ?_
  refine k_iconst C dJ6_bitCount_0f7a4_2 3 rfl ?_
  refine k_iushr C dJ6_bitCount_0f7a4_3 4 rfl ?_
  refine k_ldcw (v := 1431655765) C dJ6_bitCount_0f7a4_4 (List.mem_of_getElem? (i := 1) rfl) (by decide) 7 rfl ?_
  refine k_iand C dJ6_bitCount_0f7a4_7 8 rfl ?_
  refine k_isub C dJ6_bitCount_0f7a4_8 9 rfl ?_
  refine k_istore_n C dJ6_bitCount_0f7a4_9 rfl (by decide) [(0, .int (iI (x0 - (iand (iushr x0 1) 1431655765))))] rfl 10 rfl ?_
  refine k_iload_n C dJ6_bitCount_0f7a4_10 0 rfl rfl 11 rfl ?_
  refine k_ldcw (v := 858993459) C dJ6_bitCount_0f7a4_11 (List.mem_of_getElem? (i := 2) rfl) (by decide) 14 rfl ?_
  refine k_iand C dJ6_bitCount_0f7a4_14 15 rfl ?_
  refine k_iload_n C dJ6_bitCount_0f7a4_15 0 rfl rfl 16 rfl ?_
  refine k_iconst C dJ6_bitCount_0f7a4_16 17 rfl ?_
  refine k_iushr C dJ6_bitCount_0f7a4_17 18 rfl ?_
  refine k_ldcw (v := 858993459) C dJ6_bitCount_0f7a4_18 (List.mem_of_getElem? (i := 2) rfl) (by decide) 21 rfl ?_
  refine k_iand C dJ6_bitCount_0f7a4_21 22 rfl ?_
  refine k_iadd C dJ6_bitCount_0f7a4_22 23 rfl ?_
  refine k_istore_n C dJ6_bitCount_0f7a4_23 rfl (by decide) [(0, .int (iI ((iand (x0 - (iand (iushr x0 1) 1431655765)) 858993459) + (iand (iushr (x0 - (iand (iushr x0 1) 1431655765)) 2) 858993459))))] rfl 24 rfl ?_
  refine k_iload_n C dJ6_bitCount_0f7a4_24 0 rfl rfl 25 rfl ?_
  refine k_iload_n C dJ6_bitCount_0f7a4_25 0 rfl rfl 26 rfl ?_
  refine k_iconst C dJ6_bitCount_0f7a4_26 27 rfl ?_
  refine k_iushr C dJ6_bitCount_0f7a4_27 28 rfl ?_
  refine k_iadd C dJ6_bitCount_0f7a4_28 29 rfl ?_
  refine k_ldcw (v := 252645135) C dJ6_bitCount_0f7a4_29 (List.mem_of_getElem? (i := 3) rfl) (by decide) 32 rfl ?_
  refine k_iand C dJ6_bitCount_0f7a4_32 33 rfl ?_
  refine k_istore_n C dJ6_bitCount_0f7a4_33 rfl (by decide) [(0, .int (iI (iand (((iand (x0 - (iand (iushr x0 1) 1431655765)) 858993459) + (iand (iushr (x0 - (iand (iushr x0 1) 1431655765)) 2) 858993459)) + (iushr ((iand (x0 - (iand (iushr x0 1) 1431655765)) 858993459) + (iand (iushr (x0 - (iand (iushr x0 1) 1431655765)) 2) 858993459)) 4)) 252645135)))] rfl 34 rfl ?_
  refine k_iload_n C dJ6_bitCount_0f7a4_34 0 rfl rfl 35 rfl ?_
  refine k_iload_n C dJ6_bitCount_0f7a4_35 0 rfl rfl 36 rfl ?_
  refine k_bipush C dJ6_bitCount_0f7a4_36 (by decide) 38 rfl ?_
  refine k_iushr C dJ6_bitCount_0f7a4_38 39 rfl ?_
  refine k_iadd C dJ6_bitCount_0f7a4_39 40 rfl ?_
  refine k_istore_n C dJ6_bitCount_0f7a4_40 rfl (by decide) [(0, .int (iI ((iand (((iand (x0 - (iand (iushr x0 1) 1431655765)) 858993459) + (iand (iushr (x0 - (iand (iushr x0 1) 1431655765)) 2) 858993459)) + (iushr ((iand (x0 - (iand (iushr x0 1) 1431655765)) 858993459) + (iand (iushr (x0 - (iand (iushr x0 1) 1431655765)) 2) 858993459)) 4)) 252645135) + (iushr (iand (((iand (x0 - (iand (iushr x0 1) 1431655765)) 858993459) + (iand (iushr (x0 - (iand (iushr x0 1) 1431655765)) 2) 858993459)) + (iushr ((iand (x0 - (iand (iushr x0 1) 1431655765)) 858993459) + (iand (iushr (x0 - (iand (iushr x0 1) 1431655765)) 2) 858993459)) 4)) 252645135) 8))))] rfl 41 rfl ?_
  refine k_iload_n C dJ6_bitCount_0f7a4_41 0 rfl rfl 42 rfl ?_
  refine k_iload_n C dJ6_bitCount_0f7a4_42 0 rfl rfl 43 rfl ?_
  refine k_bipush C dJ6_bitCount_0f7a4_43 (by decide) 45 rfl ?_
  refine k_iushr C dJ6_bitCount_0f7a4_45 46 rfl ?_
  refine k_iadd C dJ6_bitCount_0f7a4_46 47 rfl ?_
  refine k_istore_n C dJ6_bitCount_0f7a4_47 rfl (by decide) [(0, .int (iI (((iand (((iand (x0 - (iand (iushr x0 1) 1431655765)) 858993459) + (iand (iushr (x0 - (iand (iushr x0 1) 1431655765)) 2) 858993459)) + (iushr ((iand (x0 - (iand (iushr x0 1) 1431655765)) 858993459) + (iand (iushr (x0 - (iand (iushr x0 1) 1431655765)) 2) 858993459)) 4)) 252645135) + (iushr (iand (((iand (x0 - (iand (iushr x0 1) 1431655765)) 858993459) + (iand (iushr (x0 - (iand (iushr x0 1) 1431655765)) 2) 858993459)) + (iushr ((iand (x0 - (iand (iushr x0 1) 1431655765)) 858993459) + (iand (iushr (x0 - (iand (iushr x0 1) 1431655765)) 2) 858993459)) 4)) 252645135) 8)) + (iushr ((iand (((iand (x0 - (iand (iushr x0 1) 1431655765)) 858993459) + (iand (iushr (x0 - (iand (iushr x0 1) 1431655765)) 2) 858993459)) + (iushr ((iand (x0 - (iand (iushr x0 1) 1431655765)) 858993459) + (iand (iushr (x0 - (iand (iushr x0 1) 1431655765)) 2) 858993459)) 4)) 252645135) + (iushr (iand (((iand (x0 - (iand (iushr x0 1) 1431655765)) 858993459) + (iand (iushr (x0 - (iand (iushr x0 1) 1431655765)) 2) 858993459)) + (iushr ((iand (x0 - (iand (iushr x0 1) 1431655765)) 858993459) + (iand (iushr (x0 - (iand (iushr x0 1) 1431655765)) 2) 858993459)) 4)) 252645135) 8)) 16))))] rfl 48 rfl ?_
  refine k_iload_n C dJ6_bitCount_0f7a4_48 0 rfl rfl 49 rfl ?_
  refine k_bipush C dJ6_bitCount_0f7a4_49 (by decide) 51 rfl ?_
  refine k_iand C dJ6_bitCount_0f7a4_51 52 rfl ?_
  exact k_iret C dJ6_bitCount_0f7a4_52 ⟨iand (((iand (((iand (x0 - (iand (iushr x0 1) 1431655765)) 858993459) + (iand (iushr (x0 - (iand (iushr x0 1) 1431655765)) 2) 858993459)) + (iushr ((iand (x0 - (iand (iushr x0 1) 1431655765)) 858993459) + (iand (iushr (x0 - (iand (iushr x0 1) 1431655765)) 2) 858993459)) 4)) 252645135) + (iushr (iand (((iand (x0 - (iand (iushr x0 1) 1431655765)) 858993459) + (iand (iushr (x0 - (iand (iushr x0 1) 1431655765)) 2) 858993459)) + (iushr ((iand (x0 - (iand (iushr x0 1) 1431655765)) 858993459) + (iand (iushr (x0 - (iand (iushr x0 1) 1431655765)) 2) 858993459)) 4)) 252645135) 8)) + (iushr ((iand (((iand (x0 - (iand (iushr x0 1) 1431655765)) 858993459) + (iand (iushr (x0 - (iand (iushr x0 1) 1431655765)) 2) 858993459)) + (iushr ((iand (x0 - (iand (iushr x0 1) 1431655765)) 858993459) + (iand (iushr (x0 - (iand (iushr x0 1) 1431655765)) 2) 858993459)) 4)) 252645135) + (iushr (iand (((iand (x0 - (iand (iushr x0 1) 1431655765)) 858993459) + (iand (iushr (x0 - (iand (iushr x0 1) 1431655765)) 2) 858993459)) + (iushr ((iand (x0 - (iand (iushr x0 1) 1431655765)) 858993459) + (iand (iushr (x0 - (iand (iushr x0 1) 1431655765)) 2) 858993459)) 4)) 252645135) 8)) 16)) 63, rfl, rfl, h⟩

/-! X6_isNoGuest -/
abbrev rm_X6_isNoGuest : Room := { frames := 1, cells := 0, slots := 0, locals := 22 }
theorem sg_X6_isNoGuest : yX6_isNoGuest.cls ≠ "java/lang/invoke/MethodHandle" ∧ yX6_isNoGuest.cls ≠ "java/lang/invoke/VarHandle" ∧ (parseMethodDescriptor yX6_isNoGuest.desc).map (fun d => d.parameters.length) = some 1 := by decide +kernel
def rp_X6_isNoGuest (cI cJ cZ : ClassId) (Q : Int → Prop) : Option Value → va_W → Prop := fun v w1 => ∃ (r : Int), v = some (.int (iI r)) ∧ w1 = ([] : va_W) ∧ (r = 0 ∨ r = 1) ∧ Q r
def wp_X6_isNoGuest (x0 : Int) (Q : Int → Prop) : Prop :=
    wp_X6_isOutside x0 0 9 (fun (r4 : Int) => Q r4)

set_option maxHeartbeats 4000000 in
set_option maxRecDepth 20000 in
theorem c_X6_isNoGuest {l : Launch} {D : va_G} {cI cJ cZ : ClassId} (x0 : Int) (Q : Int → Prop) (h : wp_X6_isNoGuest x0 Q) : KM l D (kT cI cJ cZ) 0 0 yX6_isNoGuest wsX6_isNoGuest rm_X6_isNoGuest [.int (iI x0)] (([] : va_W)) (rp_X6_isNoGuest cI cJ cZ Q) := by
  refine KM_intro (lv := [(0, .int (iI x0))]) false rfl (by decide) (Nat.le_of_ble_eq_true rfl) rfl (fun h => absurd h (by decide)) (fun v ws hq => by obtain ⟨r, rfl, rfl, hb, _⟩ := hq; exact Or.inr (Or.inr (Or.inl ⟨rfl, by rcases hb with rfl | rfl; exact Or.inl rfl; exact Or.inr rfl⟩))) (fun A K C => ?_)
  refine k_iload_n C dX6_isNoGuest_0 0 rfl rfl 1 rfl ?_
  refine k_iconst C dX6_isNoGuest_1 2 rfl ?_
  refine k_bipush C dX6_isNoGuest_2 (by decide) 4 rfl ?_
  have hM := c_X6_isOutside (l := l) (D := D) (cI := cI) (cJ := cJ) (cZ := cZ) x0 0 9 _ h
  refine k_callS C dX6_isNoGuest_4 hM gX6_isNoGuest_X6_isOutside rfl sg_X6_isOutside rfl (Nat.le_of_ble_eq_true rfl) ⟨⟨rfl, rfl⟩, by decide, by decide⟩ ⟨Nat.le_refl 0, Nat.le_refl 0⟩ [] [] rfl rfl rfl rfl (by decide) 0 0 ⟨rfl, rfl⟩ 7 rfl (fun v w1 hq4 => ?_)
  obtain ⟨r4, rfl, rfl, hb4, h⟩ := hq4
  refine k_perm C [] [.int (iI r4)] (([] : va_W)) rfl rfl rfl ?_
  exact k_iret C dX6_isNoGuest_7 ⟨r4, rfl, rfl, hb4, h⟩

/-! X6_greatestDivisor -/
abbrev rm_X6_greatestDivisor : Room := { frames := 0, cells := 0, slots := 0, locals := 0 }
theorem sg_X6_greatestDivisor : yX6_greatestDivisor.cls ≠ "java/lang/invoke/MethodHandle" ∧ yX6_greatestDivisor.cls ≠ "java/lang/invoke/VarHandle" ∧ (parseMethodDescriptor yX6_greatestDivisor.desc).map (fun d => d.parameters.length) = some 2 := by decide +kernel
def rp_X6_greatestDivisor (cI cJ cZ : ClassId) (Q : Int → Prop) : Option Value → va_W → Prop := fun v w1 => ∃ (r : Int), v = some (.long (lL r)) ∧ w1 = ([] : va_W) ∧ Q r
def wp_X6_greatestDivisor_9 (K_45 : Int → Prop)  (Q : Int → Prop) : Nat → Int → Int → Int → Prop
  | 0, _, _, _ => False
  | n9 + 1, x4, x6, x8 =>
    rI x8 ∧ ((128 ≤ x8 → K_45 x4) ∧ (¬ (128 ≤ x8) → rL x6 ∧ ((x6 = 0 → K_45 x4) ∧ (¬ (x6 = 0) → ¬ x6 = 0 ∧ rL x4 ∧ wp_X6_greatestDivisor_9 K_45 Q n9 x6 (x4.tmod x6) (x8 + 1)))))
def wp_X6_greatestDivisor (x0 : Int) (x2 : Int) (Q : Int → Prop) : Prop :=
    ∃ m9, wp_X6_greatestDivisor_9 (fun (x4 : Int) => Q x4) Q m9 x0 x2 0
set_option maxHeartbeats 4000000 in
set_option maxRecDepth 20000 in
theorem w_X6_greatestDivisor_9 {l : Launch} {D : va_G} {cI cJ cZ : ClassId} {A : Nat → Prop} {K : KT} {Q : Int → Prop} {K_45 : Int → Prop} (C : KC cX6_greatestDivisor yX6_greatestDivisor.cls wsX6_greatestDivisor rm_X6_greatestDivisor 11 D (kT cI cJ cZ) A l false (rp_X6_greatestDivisor cI cJ cZ Q) 0 0 K) : ∀ (n : Nat) (x4 : Int) (x6 : Int) (x8 : Int), wp_X6_greatestDivisor_9 K_45 Q n x4 x6 x8 → (∀ (x4 : Int), K_45 x4 → K 0 0 45 [(4, .long (lL x4))] [] (([] : va_W))) → K 0 0 9 [(4, .long (lL x4)), (6, .long (lL x6)), (8, .int (iI x8))] [] (([] : va_W)) := by
  intro n
  induction n with
  | zero => intro x4 x6 x8 h; exact h.elim
  | succ n ih =>
    intro x4 x6 x8 h hK_45
    refine k_iload C dX6_greatestDivisor_9 2 rfl 11 rfl ?_
    refine k_sipush C dX6_greatestDivisor_11 (by decide) 14 rfl ?_
    obtain ⟨hr14a, h⟩ := h
    obtain ⟨ht, hf⟩ := h
    refine k_icmp_ge C dX6_greatestDivisor_14 ⟨hr14a, (by decide)⟩ 45 17 (by decide) rfl (fun hc14 => ?_) (fun hc14 => ?_)
    · have h := ht hc14; clear ht hf
      refine k_lv C [0] [(4, .long (lL x4))] rfl ?_
      exact hK_45 x4 h
    · have h := hf hc14; clear ht hf
      refine k_lload C dX6_greatestDivisor_17 1 rfl 19 rfl ?_
      refine k_lconst (v := 0) C dX6_greatestDivisor_19 (by decide) 20 rfl ?_
      obtain ⟨hr20a, h⟩ := h
      obtain ⟨ht, hf⟩ := h
      refine k_lcmp_eq C dX6_greatestDivisor_20 dX6_greatestDivisor_21 ⟨hr20a, (by decide)⟩ 45 24 (by decide) rfl (fun hc20 => ?_) (fun hc20 => ?_)
      · have h := ht hc20; clear ht hf
        refine k_lv C [0] [(4, .long (lL x4))] rfl ?_
        exact hK_45 x4 h
      · have h := hf hc20; clear ht hf
        refine k_lload C dX6_greatestDivisor_24 0 rfl 26 rfl ?_
        refine k_lload C dX6_greatestDivisor_26 1 rfl 28 rfl ?_
        obtain ⟨hz28, h⟩ := h
        obtain ⟨hr28a, h⟩ := h
        refine k_lrem C dX6_greatestDivisor_28 ⟨hr28a, hr20a, hz28⟩ 29 rfl ?_
        refine k_lstore C dX6_greatestDivisor_29 (by decide) [(9, .long (lL (x4.tmod x6))), (4, .long (lL x4)), (6, .long (lL x6)), (8, .int (iI x8))] rfl 31 rfl ?_
        refine k_lload C dX6_greatestDivisor_31 2 rfl 33 rfl ?_
        refine k_lstore C dX6_greatestDivisor_33 (by decide) [(4, .long (lL x6)), (9, .long (lL (x4.tmod x6))), (6, .long (lL x6)), (8, .int (iI x8))] rfl 35 rfl ?_
        refine k_lload C dX6_greatestDivisor_35 1 rfl 37 rfl ?_
        refine k_lstore C dX6_greatestDivisor_37 (by decide) [(6, .long (lL (x4.tmod x6))), (4, .long (lL x6)), (9, .long (lL (x4.tmod x6))), (8, .int (iI x8))] rfl 39 rfl ?_
        refine k_iinc (j := 3) C dX6_greatestDivisor_39 rfl (by decide) [(8, .int (iI (x8 + 1))), (6, .long (lL (x4.tmod x6))), (4, .long (lL x6)), (9, .long (lL (x4.tmod x6)))] rfl 42 rfl ?_
        refine k_goto C dX6_greatestDivisor_42 9 (by decide) ?_
        refine k_lv C [2, 1, 0] [(4, .long (lL x6)), (6, .long (lL (x4.tmod x6))), (8, .int (iI (x8 + 1)))] rfl ?_
        exact ih x6 (x4.tmod x6) (x8 + 1) h hK_45
set_option maxHeartbeats 4000000 in
set_option maxRecDepth 20000 in
theorem c_X6_greatestDivisor {l : Launch} {D : va_G} {cI cJ cZ : ClassId} (x0 : Int) (x2 : Int) (Q : Int → Prop) (h : wp_X6_greatestDivisor x0 x2 Q) : KM l D (kT cI cJ cZ) 0 0 yX6_greatestDivisor wsX6_greatestDivisor rm_X6_greatestDivisor [.long (lL x0), .long (lL x2)] (([] : va_W)) (rp_X6_greatestDivisor cI cJ cZ Q) := by
  refine KM_intro (lv := [(0, .long (lL x0)), (2, .long (lL x2))]) false rfl (by decide) (Nat.le_of_ble_eq_true rfl) rfl (fun h => absurd h (by decide)) (fun v ws hq => by obtain ⟨r, rfl, rfl, _⟩ := hq; exact Or.inr (Or.inr (Or.inr ⟨rfl, _, rfl⟩))) (fun A K C => ?_)
  refine k_lload_n C dX6_greatestDivisor_0 0 rfl rfl 1 rfl ?_
  refine k_lstore C dX6_greatestDivisor_1 (by decide) [(4, .long (lL x0)), (0, .long (lL x0)), (2, .long (lL x2))] rfl 3 rfl ?_
  refine k_lload_n C dX6_greatestDivisor_3 2 rfl rfl 4 rfl ?_
  refine k_lstore C dX6_greatestDivisor_4 (by decide) [(6, .long (lL x2)), (4, .long (lL x0)), (0, .long (lL x0)), (2, .long (lL x2))] rfl 6 rfl ?_
  refine k_iconst C dX6_greatestDivisor_6 7 rfl ?_
  refine k_istore C dX6_greatestDivisor_7 (by decide) [(8, .int (iI 0)), (6, .long (lL x2)), (4, .long (lL x0)), (0, .long (lL x0)), (2, .long (lL x2))] rfl 9 rfl ?_
  refine k_lv C [2, 1, 0] [(4, .long (lL x0)), (6, .long (lL x2)), (8, .int (iI 0))] rfl ?_
  obtain ⟨m9, h⟩ := h
  refine w_X6_greatestDivisor_9 C m9 x0 x2 0 h (fun x4 h => ?_)
  · refine k_lload C dX6_greatestDivisor_45 0 rfl 47 rfl ?_
    exact k_lret C dX6_greatestDivisor_47 ⟨x4, rfl, rfl, h⟩

/-! X6_inLowestTerms -/
abbrev rm_X6_inLowestTerms : Room := { frames := 1, cells := 0, slots := 0, locals := 30 }
theorem sg_X6_inLowestTerms : yX6_inLowestTerms.cls ≠ "java/lang/invoke/MethodHandle" ∧ yX6_inLowestTerms.cls ≠ "java/lang/invoke/VarHandle" ∧ (parseMethodDescriptor yX6_inLowestTerms.desc).map (fun d => d.parameters.length) = some 3 := by decide +kernel
def rp_X6_inLowestTerms (cI cJ cZ : ClassId) (Q : Int → Prop) : Option Value → va_W → Prop := fun v w1 => ∃ (r : Int), v = some (.long (lL r)) ∧ w1 = ([] : va_W) ∧ Q r
def wp_X6_inLowestTerms (x0 : Int) (x2 : Int) (x4 : Int) (Q : Int → Prop) : Prop :=
    wp_X6_greatestDivisor x0 x2 (fun (r2 : Int) => rL r2 ∧ ((¬ r2 = 0 → rI x4 ∧ ((¬ x4 = 0 → ¬ r2 = 0 ∧ rL x2 ∧ Q (x2.tdiv r2)) ∧ (¬ (¬ x4 = 0) → ¬ r2 = 0 ∧ rL x0 ∧ Q (x0.tdiv r2)))) ∧ (¬ (¬ r2 = 0) → Q 0)))

set_option maxHeartbeats 4000000 in
set_option maxRecDepth 20000 in
theorem c_X6_inLowestTerms {l : Launch} {D : va_G} {cI cJ cZ : ClassId} (x0 : Int) (x2 : Int) (x4 : Int) (Q : Int → Prop) (h : wp_X6_inLowestTerms x0 x2 x4 Q) : KM l D (kT cI cJ cZ) 0 0 yX6_inLowestTerms wsX6_inLowestTerms rm_X6_inLowestTerms [.long (lL x0), .long (lL x2), .int (iI x4)] (([] : va_W)) (rp_X6_inLowestTerms cI cJ cZ Q) := by
  refine KM_intro (lv := [(0, .long (lL x0)), (2, .long (lL x2)), (4, .int (iI x4))]) false rfl (by decide) (Nat.le_of_ble_eq_true rfl) rfl (fun h => absurd h (by decide)) (fun v ws hq => by obtain ⟨r, rfl, rfl, _⟩ := hq; exact Or.inr (Or.inr (Or.inr ⟨rfl, _, rfl⟩))) (fun A K C => ?_)
  refine k_lload_n C dX6_inLowestTerms_0 0 rfl rfl 1 rfl ?_
  refine k_lload_n C dX6_inLowestTerms_1 1 rfl rfl 2 rfl ?_
  have hM := c_X6_greatestDivisor (l := l) (D := D) (cI := cI) (cJ := cJ) (cZ := cZ) x0 x2 _ h
  refine k_callS C dX6_inLowestTerms_2 hM gX6_inLowestTerms_X6_greatestDivisor rfl sg_X6_greatestDivisor rfl (Nat.le_of_ble_eq_true rfl) ⟨⟨rfl, rfl⟩, by decide, by decide⟩ ⟨Nat.le_refl 0, Nat.le_refl 0⟩ [] [] rfl rfl rfl rfl (by decide) 0 0 ⟨rfl, rfl⟩ 5 rfl (fun v w1 hq2 => ?_)
  obtain ⟨r2, rfl, rfl, h⟩ := hq2
  refine k_perm C [] [.long (lL r2)] (([] : va_W)) rfl rfl rfl ?_
  refine k_lstore C dX6_inLowestTerms_5 (by decide) [(5, .long (lL r2)), (0, .long (lL x0)), (2, .long (lL x2)), (4, .int (iI x4))] rfl 7 rfl ?_
  refine k_lload C dX6_inLowestTerms_7 0 rfl 9 rfl ?_
  refine k_lconst (v := 0) C dX6_inLowestTerms_9 (by decide) 10 rfl ?_
  obtain ⟨hr10a, h⟩ := h
  obtain ⟨ht, hf⟩ := h
  refine k_lcmp_ne C dX6_inLowestTerms_10 dX6_inLowestTerms_11 ⟨hr10a, (by decide)⟩ 16 14 (by decide) rfl (fun hc10 => ?_) (fun hc10 => ?_)
  · have h := ht hc10; clear ht hf
    refine k_iload C dX6_inLowestTerms_16 3 rfl 18 rfl ?_
    obtain ⟨hr18a, h⟩ := h
    obtain ⟨ht, hf⟩ := h
    refine k_if_ne C dX6_inLowestTerms_18 hr18a 28 21 (by decide) rfl (fun hc18 => ?_) (fun hc18 => ?_)
    · have h := ht hc18; clear ht hf
      refine k_lload_n C dX6_inLowestTerms_28 2 rfl rfl 29 rfl ?_
      refine k_lload C dX6_inLowestTerms_29 0 rfl 31 rfl ?_
      obtain ⟨hz31, h⟩ := h
      obtain ⟨hr31a, h⟩ := h
      refine k_ldiv C dX6_inLowestTerms_31 ⟨hr31a, hr10a, hz31⟩ 32 rfl ?_
      exact k_lret C dX6_inLowestTerms_32 ⟨x2.tdiv r2, rfl, rfl, h⟩
    · have h := hf hc18; clear ht hf
      refine k_lload_n C dX6_inLowestTerms_21 1 rfl rfl 22 rfl ?_
      refine k_lload C dX6_inLowestTerms_22 0 rfl 24 rfl ?_
      obtain ⟨hz24, h⟩ := h
      obtain ⟨hr24a, h⟩ := h
      refine k_ldiv C dX6_inLowestTerms_24 ⟨hr24a, hr10a, hz24⟩ 25 rfl ?_
      refine k_goto C dX6_inLowestTerms_25 32 (by decide) ?_
      exact k_lret C dX6_inLowestTerms_32 ⟨x0.tdiv r2, rfl, rfl, h⟩
  · have h := hf hc10; clear ht hf
    refine k_lconst (v := 0) C dX6_inLowestTerms_14 (by decide) 15 rfl ?_
    exact k_lret C dX6_inLowestTerms_15 ⟨0, rfl, rfl, h⟩

/-! X6_leftOver -/
abbrev rm_X6_leftOver : Room := { frames := 0, cells := 0, slots := 0, locals := 0 }
theorem sg_X6_leftOver : yX6_leftOver.cls ≠ "java/lang/invoke/MethodHandle" ∧ yX6_leftOver.cls ≠ "java/lang/invoke/VarHandle" ∧ (parseMethodDescriptor yX6_leftOver.desc).map (fun d => d.parameters.length) = some 2 := by decide +kernel
def rp_X6_leftOver (cI cJ cZ : ClassId) (Q : Int → Prop) : Option Value → va_W → Prop := fun v w1 => ∃ (r : Int), v = some (.int (iI r)) ∧ w1 = ([] : va_W) ∧ Q r
def wp_X6_leftOver (x0 : Int) (x1 : Int) (Q : Int → Prop) : Prop :=
    rI x1 ∧ ((x1 ≤ 0 → Q 0) ∧ (¬ (x1 ≤ 0) → ¬ x1 = 0 ∧ rI x0 ∧ Q (x0.tmod x1)))

set_option maxHeartbeats 4000000 in
set_option maxRecDepth 20000 in
theorem c_X6_leftOver {l : Launch} {D : va_G} {cI cJ cZ : ClassId} (x0 : Int) (x1 : Int) (Q : Int → Prop) (h : wp_X6_leftOver x0 x1 Q) : KM l D (kT cI cJ cZ) 0 0 yX6_leftOver wsX6_leftOver rm_X6_leftOver [.int (iI x0), .int (iI x1)] (([] : va_W)) (rp_X6_leftOver cI cJ cZ Q) := by
  refine KM_intro (lv := [(0, .int (iI x0)), (1, .int (iI x1))]) false rfl (by decide) (Nat.le_of_ble_eq_true rfl) rfl (fun h => absurd h (by decide)) (fun v ws hq => by obtain ⟨r, rfl, rfl, _⟩ := hq; exact Or.inr (Or.inl ⟨rfl, _, rfl⟩)) (fun A K C => ?_)
  refine k_iload_n C dX6_leftOver_0 1 rfl rfl 1 rfl ?_
  obtain ⟨hr1a, h⟩ := h
  obtain ⟨ht, hf⟩ := h
  refine k_if_le C dX6_leftOver_1 hr1a 10 4 (by decide) rfl (fun hc1 => ?_) (fun hc1 => ?_)
  · have h := ht hc1; clear ht hf
    refine k_iconst C dX6_leftOver_10 11 rfl ?_
    exact k_iret C dX6_leftOver_11 ⟨0, rfl, rfl, h⟩
  · have h := hf hc1; clear ht hf
    refine k_iload_n C dX6_leftOver_4 0 rfl rfl 5 rfl ?_
    refine k_iload_n C dX6_leftOver_5 1 rfl rfl 6 rfl ?_
    obtain ⟨hz6, h⟩ := h
    obtain ⟨hr6a, h⟩ := h
    refine k_irem C dX6_leftOver_6 ⟨hr6a, hr1a, hz6⟩ 7 rfl ?_
    refine k_goto C dX6_leftOver_7 11 (by decide) ?_
    exact k_iret C dX6_leftOver_11 ⟨x0.tmod x1, rfl, rfl, h⟩
